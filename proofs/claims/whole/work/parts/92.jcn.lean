/-! sorts of a new node (printed by wip/whole/pure/jcn.py) -/
theorem JC_3 {d d' : HI} {n w : Nat} (h : NL d d' n w 3) (l u : Nat) (hu : d' 13 n = nI u ∨ ¬ 3 = 3) (hu2 : u < 2 ^ 31) (hll : d' 14 n = nI l ∨ ¬ 3 = 21) (hl2 : l < 2 ^ 31) : JC 3 (nk d' n) (nn (nwl 3).length (sX d n w 3) 0) (nn (nwl 3).length (sX d n w 3) 1) (nn (nwl 3).length (sX d n w 3) 2) l u := by
  have ha := (NL_a h).2.2
  have hW := h.2.1.1
  have hE := h.2.2.1
  have hL := LK_3 h
  rw [CK_3] at ha
  simp only [List.all_cons, List.all_nil, Bool.and_eq_true, id, and_true] at ha
  obtain ⟨b0, b1⟩ := ha
  have e6 := N6 h (by decide)
  have kn := nkn hE hW e6.2 e6.1
  have hs := C2_t b0
  have hsx := Scx hW w hs.1
  have hok := hs.2
  simp (decide := true) only [Sok, ↓reduceIte] at hok
  have p1 := of_decide_eq_true b1
  have m0 : nn (nwl 3).length (sX d n w 3) 0 = 0 := by unfold nn; rw [if_neg (by decide)]
  have m1 : nn (nwl 3).length (sX d n w 3) 1 = 0 := by unfold nn; rw [if_neg (by decide)]
  have m2 : nn (nwl 3).length (sX d n w 3) 2 = 0 := by unfold nn; rw [if_neg (by decide)]
  obtain ⟨_, _, _, u', hu', eu⟩ := hL.2.1 rfl
  rw [m0, m1, m2]
  have hp : (2 : Nat) ^ nk d' n ≤ 2 ^ 3 := Nat.pow_le_pow_right (by omega) (by omega)
  have uu : u = u' := (nI_eq hu2 (by omega)).mp ((hu.resolve_right (by decide)).symm.trans eu)
  exact Or.inl ⟨rfl, by omega, by omega, by rw [uu]; exact hu'⟩
theorem JC_4 {d d' : HI} {n w : Nat} (h : NL d d' n w 4) (l u : Nat) (hu : d' 13 n = nI u ∨ ¬ 4 = 3) (hu2 : u < 2 ^ 31) (hll : d' 14 n = nI l ∨ ¬ 4 = 21) (hl2 : l < 2 ^ 31) : JC 4 (nk d' n) (nn (nwl 4).length (sX d n w 4) 0) (nn (nwl 4).length (sX d n w 4) 1) (nn (nwl 4).length (sX d n w 4) 2) l u := by
  have ha := (NL_a h).2.2
  have hW := h.2.1.1
  have hE := h.2.2.1
  have hL := LK_4 h
  rw [CK_4] at ha
  simp only [List.all_cons, List.all_nil, Bool.and_eq_true, id, and_true] at ha
  obtain ⟨b0, b1⟩ := ha
  have e6 := N6 h (by decide)
  have kn := nkn hE hW e6.2 e6.1
  have hs := C2_t b0
  have hsx := Scx hW w hs.1
  have hok := hs.2
  simp (decide := true) only [Sok, ↓reduceIte] at hok
  have p1 := of_decide_eq_true b1
  have n3 := nsr hW w 3 (p1.1)
  have m0 : nn (nwl 4).length (sX d n w 4) 0 = ns d (NW d n w 3) := by unfold nn; rw [if_pos (by decide)]; rfl
  have m1 : nn (nwl 4).length (sX d n w 4) 1 = 0 := by unfold nn; rw [if_neg (by decide)]
  have m2 : nn (nwl 4).length (sX d n w 4) 2 = 0 := by unfold nn; rw [if_neg (by decide)]
  rw [m0, m1, m2, kn]
  exact Or.inr (Or.inl ⟨Or.inl rfl, by omega, by omega, p1.2, rfl⟩)
theorem JC_5 {d d' : HI} {n w : Nat} (h : NL d d' n w 5) (l u : Nat) (hu : d' 13 n = nI u ∨ ¬ 5 = 3) (hu2 : u < 2 ^ 31) (hll : d' 14 n = nI l ∨ ¬ 5 = 21) (hl2 : l < 2 ^ 31) : JC 5 (nk d' n) (nn (nwl 5).length (sX d n w 5) 0) (nn (nwl 5).length (sX d n w 5) 1) (nn (nwl 5).length (sX d n w 5) 2) l u := by
  have ha := (NL_a h).2.2
  have hW := h.2.1.1
  have hE := h.2.2.1
  have hL := LK_5 h
  rw [CK_5] at ha
  simp only [List.all_cons, List.all_nil, Bool.and_eq_true, id, and_true] at ha
  obtain ⟨b0, b1⟩ := ha
  have e6 := N6 h (by decide)
  have kn := nkn hE hW e6.2 e6.1
  have hs := C2_t b0
  have hsx := Scx hW w hs.1
  have hok := hs.2
  simp (decide := true) only [Sok, ↓reduceIte] at hok
  have p1 := of_decide_eq_true b1
  have n3 := nsr hW w 3 (p1.1)
  have m0 : nn (nwl 5).length (sX d n w 5) 0 = ns d (NW d n w 3) := by unfold nn; rw [if_pos (by decide)]; rfl
  have m1 : nn (nwl 5).length (sX d n w 5) 1 = 0 := by unfold nn; rw [if_neg (by decide)]
  have m2 : nn (nwl 5).length (sX d n w 5) 2 = 0 := by unfold nn; rw [if_neg (by decide)]
  rw [m0, m1, m2, kn]
  exact Or.inr (Or.inl ⟨Or.inr rfl, by omega, by omega, p1.2, rfl⟩)
theorem JC_6 {d d' : HI} {n w : Nat} (h : NL d d' n w 6) (l u : Nat) (hu : d' 13 n = nI u ∨ ¬ 6 = 3) (hu2 : u < 2 ^ 31) (hll : d' 14 n = nI l ∨ ¬ 6 = 21) (hl2 : l < 2 ^ 31) : JC 6 (nk d' n) (nn (nwl 6).length (sX d n w 6) 0) (nn (nwl 6).length (sX d n w 6) 1) (nn (nwl 6).length (sX d n w 6) 2) l u := by
  have ha := (NL_a h).2.2
  have hW := h.2.1.1
  have hE := h.2.2.1
  have hL := LK_6 h
  rw [CK_6] at ha
  simp only [List.all_cons, List.all_nil, Bool.and_eq_true, id, and_true] at ha
  obtain ⟨b0, b1⟩ := ha
  have e6 := N6 h (by decide)
  have kn := nkn hE hW e6.2 e6.1
  have hs := C2_t b0
  have hsx := Scx hW w hs.1
  have hok := hs.2
  simp (decide := true) only [Sok, ↓reduceIte] at hok
  have p1 := of_decide_eq_true b1
  have n3 := nsr hW w 3 (p1.1)
  have m0 : nn (nwl 6).length (sX d n w 6) 0 = ns d (NW d n w 3) := by unfold nn; rw [if_pos (by decide)]; rfl
  have m1 : nn (nwl 6).length (sX d n w 6) 1 = 0 := by unfold nn; rw [if_neg (by decide)]
  have m2 : nn (nwl 6).length (sX d n w 6) 2 = 0 := by unfold nn; rw [if_neg (by decide)]
  rw [m0, m1, m2, kn]
  exact Or.inr (Or.inr (Or.inl ⟨rfl, hok, n3.1, by have := p1.2; omega, rfl⟩))
theorem JC_7 {d d' : HI} {n w : Nat} (h : NL d d' n w 7) (l u : Nat) (hu : d' 13 n = nI u ∨ ¬ 7 = 3) (hu2 : u < 2 ^ 31) (hll : d' 14 n = nI l ∨ ¬ 7 = 21) (hl2 : l < 2 ^ 31) : JC 7 (nk d' n) (nn (nwl 7).length (sX d n w 7) 0) (nn (nwl 7).length (sX d n w 7) 1) (nn (nwl 7).length (sX d n w 7) 2) l u := by
  have ha := (NL_a h).2.2
  have hW := h.2.1.1
  have hE := h.2.2.1
  have hL := LK_7 h
  rw [CK_7] at ha
  simp only [List.all_cons, List.all_nil, Bool.and_eq_true, id, and_true] at ha
  obtain ⟨b0, b1, b2⟩ := ha
  have e6 := N6 h (by decide)
  have kn := nkn hE hW e6.2 e6.1
  have hs := C2_t b0
  have hsx := Scx hW w hs.1
  have hok := hs.2
  simp (decide := true) only [Sok, ↓reduceIte] at hok
  have p1 := of_decide_eq_true b1
  have p2 := of_decide_eq_true b2
  have n3 := nsr hW w 3 (p1.1)
  have n4 := nsr hW w 4 (p2.1)
  have m0 : nn (nwl 7).length (sX d n w 7) 0 = ns d (NW d n w 3) := by unfold nn; rw [if_pos (by decide)]; rfl
  have m1 : nn (nwl 7).length (sX d n w 7) 1 = ns d (NW d n w 4) := by unfold nn; rw [if_pos (by decide)]; rfl
  have m2 : nn (nwl 7).length (sX d n w 7) 2 = 0 := by unfold nn; rw [if_neg (by decide)]
  rw [m0, m1, m2, kn]
  exact Or.inr (Or.inr (Or.inr (Or.inl ⟨by decide, by decide, by omega, by omega, p1.2, p2.2⟩)))
theorem JC_8 {d d' : HI} {n w : Nat} (h : NL d d' n w 8) (l u : Nat) (hu : d' 13 n = nI u ∨ ¬ 8 = 3) (hu2 : u < 2 ^ 31) (hll : d' 14 n = nI l ∨ ¬ 8 = 21) (hl2 : l < 2 ^ 31) : JC 8 (nk d' n) (nn (nwl 8).length (sX d n w 8) 0) (nn (nwl 8).length (sX d n w 8) 1) (nn (nwl 8).length (sX d n w 8) 2) l u := by
  have ha := (NL_a h).2.2
  have hW := h.2.1.1
  have hE := h.2.2.1
  have hL := LK_8 h
  rw [CK_8] at ha
  simp only [List.all_cons, List.all_nil, Bool.and_eq_true, id, and_true] at ha
  obtain ⟨b0, b1, b2⟩ := ha
  have e6 := N6 h (by decide)
  have kn := nkn hE hW e6.2 e6.1
  have hs := C2_t b0
  have hsx := Scx hW w hs.1
  have hok := hs.2
  simp (decide := true) only [Sok, ↓reduceIte] at hok
  have p1 := of_decide_eq_true b1
  have p2 := of_decide_eq_true b2
  have n3 := nsr hW w 3 (p1.1)
  have n4 := nsr hW w 4 (p2.1)
  have m0 : nn (nwl 8).length (sX d n w 8) 0 = ns d (NW d n w 3) := by unfold nn; rw [if_pos (by decide)]; rfl
  have m1 : nn (nwl 8).length (sX d n w 8) 1 = ns d (NW d n w 4) := by unfold nn; rw [if_pos (by decide)]; rfl
  have m2 : nn (nwl 8).length (sX d n w 8) 2 = 0 := by unfold nn; rw [if_neg (by decide)]
  rw [m0, m1, m2, kn]
  exact Or.inr (Or.inr (Or.inr (Or.inl ⟨by decide, by decide, by omega, by omega, p1.2, p2.2⟩)))
theorem JC_9 {d d' : HI} {n w : Nat} (h : NL d d' n w 9) (l u : Nat) (hu : d' 13 n = nI u ∨ ¬ 9 = 3) (hu2 : u < 2 ^ 31) (hll : d' 14 n = nI l ∨ ¬ 9 = 21) (hl2 : l < 2 ^ 31) : JC 9 (nk d' n) (nn (nwl 9).length (sX d n w 9) 0) (nn (nwl 9).length (sX d n w 9) 1) (nn (nwl 9).length (sX d n w 9) 2) l u := by
  have ha := (NL_a h).2.2
  have hW := h.2.1.1
  have hE := h.2.2.1
  have hL := LK_9 h
  rw [CK_9] at ha
  simp only [List.all_cons, List.all_nil, Bool.and_eq_true, id, and_true] at ha
  obtain ⟨b0, b1, b2⟩ := ha
  have e6 := N6 h (by decide)
  have kn := nkn hE hW e6.2 e6.1
  have hs := C2_t b0
  have hsx := Scx hW w hs.1
  have hok := hs.2
  simp (decide := true) only [Sok, ↓reduceIte] at hok
  have p1 := of_decide_eq_true b1
  have p2 := of_decide_eq_true b2
  have n3 := nsr hW w 3 (p1.1)
  have n4 := nsr hW w 4 (p2.1)
  have m0 : nn (nwl 9).length (sX d n w 9) 0 = ns d (NW d n w 3) := by unfold nn; rw [if_pos (by decide)]; rfl
  have m1 : nn (nwl 9).length (sX d n w 9) 1 = ns d (NW d n w 4) := by unfold nn; rw [if_pos (by decide)]; rfl
  have m2 : nn (nwl 9).length (sX d n w 9) 2 = 0 := by unfold nn; rw [if_neg (by decide)]
  rw [m0, m1, m2, kn]
  exact Or.inr (Or.inr (Or.inr (Or.inl ⟨by decide, by decide, by omega, by omega, p1.2, p2.2⟩)))
theorem JC_10 {d d' : HI} {n w : Nat} (h : NL d d' n w 10) (l u : Nat) (hu : d' 13 n = nI u ∨ ¬ 10 = 3) (hu2 : u < 2 ^ 31) (hll : d' 14 n = nI l ∨ ¬ 10 = 21) (hl2 : l < 2 ^ 31) : JC 10 (nk d' n) (nn (nwl 10).length (sX d n w 10) 0) (nn (nwl 10).length (sX d n w 10) 1) (nn (nwl 10).length (sX d n w 10) 2) l u := by
  have ha := (NL_a h).2.2
  have hW := h.2.1.1
  have hE := h.2.2.1
  have hL := LK_10 h
  rw [CK_10] at ha
  simp only [List.all_cons, List.all_nil, Bool.and_eq_true, id, and_true] at ha
  obtain ⟨b0, b1, b2⟩ := ha
  have e6 := N6 h (by decide)
  have kn := nkn hE hW e6.2 e6.1
  have hs := C2_t b0
  have hsx := Scx hW w hs.1
  have hok := hs.2
  simp (decide := true) only [Sok, ↓reduceIte] at hok
  have p1 := of_decide_eq_true b1
  have p2 := of_decide_eq_true b2
  have n3 := nsr hW w 3 (p1.1)
  have n4 := nsr hW w 4 (p2.1)
  have m0 : nn (nwl 10).length (sX d n w 10) 0 = ns d (NW d n w 3) := by unfold nn; rw [if_pos (by decide)]; rfl
  have m1 : nn (nwl 10).length (sX d n w 10) 1 = ns d (NW d n w 4) := by unfold nn; rw [if_pos (by decide)]; rfl
  have m2 : nn (nwl 10).length (sX d n w 10) 2 = 0 := by unfold nn; rw [if_neg (by decide)]
  rw [m0, m1, m2, kn]
  exact Or.inr (Or.inr (Or.inr (Or.inl ⟨by decide, by decide, by omega, by omega, p1.2, p2.2⟩)))
theorem JC_11 {d d' : HI} {n w : Nat} (h : NL d d' n w 11) (l u : Nat) (hu : d' 13 n = nI u ∨ ¬ 11 = 3) (hu2 : u < 2 ^ 31) (hll : d' 14 n = nI l ∨ ¬ 11 = 21) (hl2 : l < 2 ^ 31) : JC 11 (nk d' n) (nn (nwl 11).length (sX d n w 11) 0) (nn (nwl 11).length (sX d n w 11) 1) (nn (nwl 11).length (sX d n w 11) 2) l u := by
  have ha := (NL_a h).2.2
  have hW := h.2.1.1
  have hE := h.2.2.1
  have hL := LK_11 h
  rw [CK_11] at ha
  simp only [List.all_cons, List.all_nil, Bool.and_eq_true, id, and_true] at ha
  obtain ⟨b0, b1, b2⟩ := ha
  have e6 := N6 h (by decide)
  have kn := nkn hE hW e6.2 e6.1
  have hs := C2_t b0
  have hsx := Scx hW w hs.1
  have hok := hs.2
  simp (decide := true) only [Sok, ↓reduceIte] at hok
  have p1 := of_decide_eq_true b1
  have p2 := of_decide_eq_true b2
  have n3 := nsr hW w 3 (p1.1)
  have n4 := nsr hW w 4 (p2.1)
  have m0 : nn (nwl 11).length (sX d n w 11) 0 = ns d (NW d n w 3) := by unfold nn; rw [if_pos (by decide)]; rfl
  have m1 : nn (nwl 11).length (sX d n w 11) 1 = ns d (NW d n w 4) := by unfold nn; rw [if_pos (by decide)]; rfl
  have m2 : nn (nwl 11).length (sX d n w 11) 2 = 0 := by unfold nn; rw [if_neg (by decide)]
  rw [m0, m1, m2, kn]
  exact Or.inr (Or.inr (Or.inr (Or.inl ⟨by decide, by decide, by omega, by omega, p1.2, p2.2⟩)))
theorem JC_12 {d d' : HI} {n w : Nat} (h : NL d d' n w 12) (l u : Nat) (hu : d' 13 n = nI u ∨ ¬ 12 = 3) (hu2 : u < 2 ^ 31) (hll : d' 14 n = nI l ∨ ¬ 12 = 21) (hl2 : l < 2 ^ 31) : JC 12 (nk d' n) (nn (nwl 12).length (sX d n w 12) 0) (nn (nwl 12).length (sX d n w 12) 1) (nn (nwl 12).length (sX d n w 12) 2) l u := by
  have ha := (NL_a h).2.2
  have hW := h.2.1.1
  have hE := h.2.2.1
  have hL := LK_12 h
  rw [CK_12] at ha
  simp only [List.all_cons, List.all_nil, Bool.and_eq_true, id, and_true] at ha
  obtain ⟨b0, b1, b2⟩ := ha
  have e6 := N6 h (by decide)
  have kn := nkn hE hW e6.2 e6.1
  have hs := C2_t b0
  have hsx := Scx hW w hs.1
  have hok := hs.2
  simp (decide := true) only [Sok, ↓reduceIte] at hok
  have p1 := of_decide_eq_true b1
  have p2 := of_decide_eq_true b2
  have n3 := nsr hW w 3 (p1.1)
  have n4 := nsr hW w 4 (p2.1)
  have m0 : nn (nwl 12).length (sX d n w 12) 0 = ns d (NW d n w 3) := by unfold nn; rw [if_pos (by decide)]; rfl
  have m1 : nn (nwl 12).length (sX d n w 12) 1 = ns d (NW d n w 4) := by unfold nn; rw [if_pos (by decide)]; rfl
  have m2 : nn (nwl 12).length (sX d n w 12) 2 = 0 := by unfold nn; rw [if_neg (by decide)]
  rw [m0, m1, m2, kn]
  exact Or.inr (Or.inr (Or.inr (Or.inl ⟨by decide, by decide, by omega, by omega, p1.2, p2.2⟩)))
theorem JC_13 {d d' : HI} {n w : Nat} (h : NL d d' n w 13) (l u : Nat) (hu : d' 13 n = nI u ∨ ¬ 13 = 3) (hu2 : u < 2 ^ 31) (hll : d' 14 n = nI l ∨ ¬ 13 = 21) (hl2 : l < 2 ^ 31) : JC 13 (nk d' n) (nn (nwl 13).length (sX d n w 13) 0) (nn (nwl 13).length (sX d n w 13) 1) (nn (nwl 13).length (sX d n w 13) 2) l u := by
  have ha := (NL_a h).2.2
  have hW := h.2.1.1
  have hE := h.2.2.1
  have hL := LK_13 h
  rw [CK_13] at ha
  simp only [List.all_cons, List.all_nil, Bool.and_eq_true, id, and_true] at ha
  obtain ⟨b0, b1, b2⟩ := ha
  have e6 := N6 h (by decide)
  have kn := nkn hE hW e6.2 e6.1
  have hs := C2_t b0
  have hsx := Scx hW w hs.1
  have hok := hs.2
  simp (decide := true) only [Sok, ↓reduceIte] at hok
  have p1 := of_decide_eq_true b1
  have p2 := of_decide_eq_true b2
  have n3 := nsr hW w 3 (p1.1)
  have n4 := nsr hW w 4 (p2.1)
  have m0 : nn (nwl 13).length (sX d n w 13) 0 = ns d (NW d n w 3) := by unfold nn; rw [if_pos (by decide)]; rfl
  have m1 : nn (nwl 13).length (sX d n w 13) 1 = ns d (NW d n w 4) := by unfold nn; rw [if_pos (by decide)]; rfl
  have m2 : nn (nwl 13).length (sX d n w 13) 2 = 0 := by unfold nn; rw [if_neg (by decide)]
  rw [m0, m1, m2, kn]
  exact Or.inr (Or.inr (Or.inr (Or.inl ⟨by decide, by decide, by omega, by omega, p1.2, p2.2⟩)))
theorem JC_14 {d d' : HI} {n w : Nat} (h : NL d d' n w 14) (l u : Nat) (hu : d' 13 n = nI u ∨ ¬ 14 = 3) (hu2 : u < 2 ^ 31) (hll : d' 14 n = nI l ∨ ¬ 14 = 21) (hl2 : l < 2 ^ 31) : JC 14 (nk d' n) (nn (nwl 14).length (sX d n w 14) 0) (nn (nwl 14).length (sX d n w 14) 1) (nn (nwl 14).length (sX d n w 14) 2) l u := by
  have ha := (NL_a h).2.2
  have hW := h.2.1.1
  have hE := h.2.2.1
  have hL := LK_14 h
  rw [CK_14] at ha
  simp only [List.all_cons, List.all_nil, Bool.and_eq_true, id, and_true] at ha
  obtain ⟨b0, b1, b2⟩ := ha
  have e6 := N6 h (by decide)
  have kn := nkn hE hW e6.2 e6.1
  have hs := C2_t b0
  have hsx := Scx hW w hs.1
  have hok := hs.2
  simp (decide := true) only [Sok, ↓reduceIte] at hok
  have p1 := of_decide_eq_true b1
  have p2 := of_decide_eq_true b2
  have n3 := nsr hW w 3 (p1.1)
  have n4 := nsr hW w 4 (p2.1)
  have m0 : nn (nwl 14).length (sX d n w 14) 0 = ns d (NW d n w 3) := by unfold nn; rw [if_pos (by decide)]; rfl
  have m1 : nn (nwl 14).length (sX d n w 14) 1 = ns d (NW d n w 4) := by unfold nn; rw [if_pos (by decide)]; rfl
  have m2 : nn (nwl 14).length (sX d n w 14) 2 = 0 := by unfold nn; rw [if_neg (by decide)]
  rw [m0, m1, m2, kn]
  exact Or.inr (Or.inr (Or.inr (Or.inl ⟨by decide, by decide, by omega, by omega, p1.2, p2.2⟩)))
theorem JC_15 {d d' : HI} {n w : Nat} (h : NL d d' n w 15) (l u : Nat) (hu : d' 13 n = nI u ∨ ¬ 15 = 3) (hu2 : u < 2 ^ 31) (hll : d' 14 n = nI l ∨ ¬ 15 = 21) (hl2 : l < 2 ^ 31) : JC 15 (nk d' n) (nn (nwl 15).length (sX d n w 15) 0) (nn (nwl 15).length (sX d n w 15) 1) (nn (nwl 15).length (sX d n w 15) 2) l u := by
  have ha := (NL_a h).2.2
  have hW := h.2.1.1
  have hE := h.2.2.1
  have hL := LK_15 h
  rw [CK_15] at ha
  simp only [List.all_cons, List.all_nil, Bool.and_eq_true, id, and_true] at ha
  obtain ⟨b0, b1, b2⟩ := ha
  have e6 := N6 h (by decide)
  have kn := nkn hE hW e6.2 e6.1
  have hs := C2_t b0
  have hsx := Scx hW w hs.1
  have hok := hs.2
  simp (decide := true) only [Sok, ↓reduceIte] at hok
  have p1 := of_decide_eq_true b1
  have p2 := of_decide_eq_true b2
  have n3 := nsr hW w 3 (p1.1)
  have n4 := nsr hW w 4 (p2.1)
  have m0 : nn (nwl 15).length (sX d n w 15) 0 = ns d (NW d n w 3) := by unfold nn; rw [if_pos (by decide)]; rfl
  have m1 : nn (nwl 15).length (sX d n w 15) 1 = ns d (NW d n w 4) := by unfold nn; rw [if_pos (by decide)]; rfl
  have m2 : nn (nwl 15).length (sX d n w 15) 2 = 0 := by unfold nn; rw [if_neg (by decide)]
  rw [m0, m1, m2, kn]
  exact Or.inr (Or.inr (Or.inr (Or.inl ⟨by decide, by decide, by omega, by omega, p1.2, p2.2⟩)))
theorem JC_16 {d d' : HI} {n w : Nat} (h : NL d d' n w 16) (l u : Nat) (hu : d' 13 n = nI u ∨ ¬ 16 = 3) (hu2 : u < 2 ^ 31) (hll : d' 14 n = nI l ∨ ¬ 16 = 21) (hl2 : l < 2 ^ 31) : JC 16 (nk d' n) (nn (nwl 16).length (sX d n w 16) 0) (nn (nwl 16).length (sX d n w 16) 1) (nn (nwl 16).length (sX d n w 16) 2) l u := by
  have ha := (NL_a h).2.2
  have hW := h.2.1.1
  have hE := h.2.2.1
  have hL := LK_16 h
  rw [CK_16] at ha
  simp only [List.all_cons, List.all_nil, Bool.and_eq_true, id, and_true] at ha
  obtain ⟨b0, b1, b2⟩ := ha
  have e6 := N6 h (by decide)
  have kn := nkn hE hW e6.2 e6.1
  have hs := C2_t b0
  have hsx := Scx hW w hs.1
  have hok := hs.2
  simp (decide := true) only [Sok, ↓reduceIte] at hok
  have p1 := of_decide_eq_true b1
  have p2 := of_decide_eq_true b2
  have n3 := nsr hW w 3 (p1.1)
  have n4 := nsr hW w 4 (p2.1)
  have m0 : nn (nwl 16).length (sX d n w 16) 0 = ns d (NW d n w 3) := by unfold nn; rw [if_pos (by decide)]; rfl
  have m1 : nn (nwl 16).length (sX d n w 16) 1 = ns d (NW d n w 4) := by unfold nn; rw [if_pos (by decide)]; rfl
  have m2 : nn (nwl 16).length (sX d n w 16) 2 = 0 := by unfold nn; rw [if_neg (by decide)]
  rw [m0, m1, m2, kn]
  exact Or.inr (Or.inr (Or.inr (Or.inl ⟨by decide, by decide, by omega, by omega, p1.2, p2.2⟩)))
theorem JC_17 {d d' : HI} {n w : Nat} (h : NL d d' n w 17) (l u : Nat) (hu : d' 13 n = nI u ∨ ¬ 17 = 3) (hu2 : u < 2 ^ 31) (hll : d' 14 n = nI l ∨ ¬ 17 = 21) (hl2 : l < 2 ^ 31) : JC 17 (nk d' n) (nn (nwl 17).length (sX d n w 17) 0) (nn (nwl 17).length (sX d n w 17) 1) (nn (nwl 17).length (sX d n w 17) 2) l u := by
  have ha := (NL_a h).2.2
  have hW := h.2.1.1
  have hE := h.2.2.1
  have hL := LK_17 h
  rw [CK_17] at ha
  simp only [List.all_cons, List.all_nil, Bool.and_eq_true, id, and_true] at ha
  obtain ⟨b0, b1, b2⟩ := ha
  have e6 := N6 h (by decide)
  have kn := nkn hE hW e6.2 e6.1
  have hs := C2_t b0
  have hsx := Scx hW w hs.1
  have hok := hs.2
  simp (decide := true) only [Sok, ↓reduceIte] at hok
  have p1 := of_decide_eq_true b1
  have p2 := of_decide_eq_true b2
  have n3 := nsr hW w 3 (p1)
  have n4 := nsr hW w 4 (p2.1)
  have m0 : nn (nwl 17).length (sX d n w 17) 0 = ns d (NW d n w 3) := by unfold nn; rw [if_pos (by decide)]; rfl
  have m1 : nn (nwl 17).length (sX d n w 17) 1 = ns d (NW d n w 4) := by unfold nn; rw [if_pos (by decide)]; rfl
  have m2 : nn (nwl 17).length (sX d n w 17) 2 = 0 := by unfold nn; rw [if_neg (by decide)]
  rw [m0, m1, m2, kn]
  exact Or.inr (Or.inr (Or.inr (Or.inr (Or.inl ⟨rfl, hok, n3.1, n3.2.1, n3.2.2.1, p2.2⟩))))
theorem JC_18 {d d' : HI} {n w : Nat} (h : NL d d' n w 18) (l u : Nat) (hu : d' 13 n = nI u ∨ ¬ 18 = 3) (hu2 : u < 2 ^ 31) (hll : d' 14 n = nI l ∨ ¬ 18 = 21) (hl2 : l < 2 ^ 31) : JC 18 (nk d' n) (nn (nwl 18).length (sX d n w 18) 0) (nn (nwl 18).length (sX d n w 18) 1) (nn (nwl 18).length (sX d n w 18) 2) l u := by
  have ha := (NL_a h).2.2
  have hW := h.2.1.1
  have hE := h.2.2.1
  have hL := LK_18 h
  rw [CK_18] at ha
  simp only [List.all_cons, List.all_nil, Bool.and_eq_true, id, and_true] at ha
  obtain ⟨b0, b1, b2⟩ := ha
  have e6 := N6 h (by decide)
  have kn := nkn hE hW e6.2 e6.1
  have hs := C2_t b0
  have hsx := Scx hW w hs.1
  have hok := hs.2
  simp (decide := true) only [Sok, ↓reduceIte] at hok
  have p1 := of_decide_eq_true b1
  have p2 := of_decide_eq_true b2
  have n3 := nsr hW w 3 (p1.1)
  have n4 := nsr hW w 4 (p2.1)
  have m0 : nn (nwl 18).length (sX d n w 18) 0 = ns d (NW d n w 3) := by unfold nn; rw [if_pos (by decide)]; rfl
  have m1 : nn (nwl 18).length (sX d n w 18) 1 = ns d (NW d n w 4) := by unfold nn; rw [if_pos (by decide)]; rfl
  have m2 : nn (nwl 18).length (sX d n w 18) 2 = 0 := by unfold nn; rw [if_neg (by decide)]
  rw [m0, m1, m2, kn]
  exact Or.inr (Or.inr (Or.inr (Or.inr (Or.inr (Or.inl ⟨Or.inl rfl, hok, n3.1, by have := p1.2; omega, p2.2⟩)))))
theorem JC_19 {d d' : HI} {n w : Nat} (h : NL d d' n w 19) (l u : Nat) (hu : d' 13 n = nI u ∨ ¬ 19 = 3) (hu2 : u < 2 ^ 31) (hll : d' 14 n = nI l ∨ ¬ 19 = 21) (hl2 : l < 2 ^ 31) : JC 19 (nk d' n) (nn (nwl 19).length (sX d n w 19) 0) (nn (nwl 19).length (sX d n w 19) 1) (nn (nwl 19).length (sX d n w 19) 2) l u := by
  have ha := (NL_a h).2.2
  have hW := h.2.1.1
  have hE := h.2.2.1
  have hL := LK_19 h
  rw [CK_19] at ha
  simp only [List.all_cons, List.all_nil, Bool.and_eq_true, id, and_true] at ha
  obtain ⟨b0, b1, b2⟩ := ha
  have e6 := N6 h (by decide)
  have kn := nkn hE hW e6.2 e6.1
  have hs := C2_t b0
  have hsx := Scx hW w hs.1
  have hok := hs.2
  simp (decide := true) only [Sok, ↓reduceIte] at hok
  have p1 := of_decide_eq_true b1
  have p2 := of_decide_eq_true b2
  have n3 := nsr hW w 3 (p1.1)
  have n4 := nsr hW w 4 (p2.1)
  have m0 : nn (nwl 19).length (sX d n w 19) 0 = ns d (NW d n w 3) := by unfold nn; rw [if_pos (by decide)]; rfl
  have m1 : nn (nwl 19).length (sX d n w 19) 1 = ns d (NW d n w 4) := by unfold nn; rw [if_pos (by decide)]; rfl
  have m2 : nn (nwl 19).length (sX d n w 19) 2 = 0 := by unfold nn; rw [if_neg (by decide)]
  rw [m0, m1, m2, kn]
  exact Or.inr (Or.inr (Or.inr (Or.inr (Or.inr (Or.inl ⟨Or.inr rfl, hok, n3.1, by have := p1.2; omega, p2.2⟩)))))
theorem JC_20 {d d' : HI} {n w : Nat} (h : NL d d' n w 20) (l u : Nat) (hu : d' 13 n = nI u ∨ ¬ 20 = 3) (hu2 : u < 2 ^ 31) (hll : d' 14 n = nI l ∨ ¬ 20 = 21) (hl2 : l < 2 ^ 31) : JC 20 (nk d' n) (nn (nwl 20).length (sX d n w 20) 0) (nn (nwl 20).length (sX d n w 20) 1) (nn (nwl 20).length (sX d n w 20) 2) l u := by
  have ha := (NL_a h).2.2
  have hW := h.2.1.1
  have hE := h.2.2.1
  have hL := LK_20 h
  rw [CK_20] at ha
  simp only [List.all_cons, List.all_nil, Bool.and_eq_true, id, and_true] at ha
  obtain ⟨b0, b1, b2⟩ := ha
  have e6 := N6 h (by decide)
  have kn := nkn hE hW e6.2 e6.1
  have hs := C2_t b0
  have hsx := Scx hW w hs.1
  have hok := hs.2
  simp (decide := true) only [Sok, ↓reduceIte] at hok
  have p1 := of_decide_eq_true b1
  have p2 := of_decide_eq_true b2
  have n3 := nsr hW w 3 (p1.1)
  have n4 := nsr hW w 4 (p2.1)
  have m0 : nn (nwl 20).length (sX d n w 20) 0 = ns d (NW d n w 3) := by unfold nn; rw [if_pos (by decide)]; rfl
  have m1 : nn (nwl 20).length (sX d n w 20) 1 = ns d (NW d n w 4) := by unfold nn; rw [if_pos (by decide)]; rfl
  have m2 : nn (nwl 20).length (sX d n w 20) 2 = 0 := by unfold nn; rw [if_neg (by decide)]
  rw [m0, m1, m2, kn]
  have q1 := p1.2
  have q2 := p2.2
  exact Or.inr (Or.inr (Or.inr (Or.inr (Or.inr (Or.inr (Or.inl ⟨rfl, by omega, n3.1, n4.1, by omega⟩))))))
theorem JC_21 {d d' : HI} {n w : Nat} (h : NL d d' n w 21) (l u : Nat) (hu : d' 13 n = nI u ∨ ¬ 21 = 3) (hu2 : u < 2 ^ 31) (hll : d' 14 n = nI l ∨ ¬ 21 = 21) (hl2 : l < 2 ^ 31) : JC 21 (nk d' n) (nn (nwl 21).length (sX d n w 21) 0) (nn (nwl 21).length (sX d n w 21) 1) (nn (nwl 21).length (sX d n w 21) 2) l u := by
  have ha := (NL_a h).2.2
  have hW := h.2.1.1
  have hE := h.2.2.1
  have hL := LK_21 h
  rw [CK_21] at ha
  simp only [List.all_cons, List.all_nil, Bool.and_eq_true, id, and_true] at ha
  obtain ⟨b0, b1, b2, b3⟩ := ha
  have e6 := N6 h (by decide)
  have kn := nkn hE hW e6.2 e6.1
  have hs := C2_t b0
  have hsx := Scx hW w hs.1
  have hok := hs.2
  simp (decide := true) only [Sok, ↓reduceIte] at hok
  have p1 := of_decide_eq_true b1
  have p2 := of_decide_eq_true b2
  have p3 := of_decide_eq_true b3
  have n3 := nsr hW w 3 (p1.1)
  have m0 : nn (nwl 21).length (sX d n w 21) 0 = ns d (NW d n w 3) := by unfold nn; rw [if_pos (by decide)]; rfl
  have m1 : nn (nwl 21).length (sX d n w 21) 1 = 0 := by unfold nn; rw [if_neg (by decide)]
  have m2 : nn (nwl 21).length (sX d n w 21) 2 = 0 := by unfold nn; rw [if_neg (by decide)]
  obtain ⟨_, hna, U, l', el, hU, hUl⟩ := hL.2.2.2.2.2.2.2.2.2.2.2.2.1 rfl
  have oA := hL.2.2.1 (by decide) (by decide)
  have ll : l = l' := (nI_eq hl2 (by omega)).mp ((hll.resolve_right (by decide)).symm.trans el)
  obtain ⟨f, hf⟩ := NL_f h
  have e7 : d' 7 n = NW d n w 3 := by
    rw [hf 7 (by omega) (by omega)]
    simp (decide := true) only [FN, FNr, FNs, fA, fB, fC, f2, f1, fI, ↓reduceIte]
  have e10 : d' 10 n = bI (TN d w 3) := by
    rw [hf 10 (by omega) (by omega)]
    simp (decide := true) only [FN, FNr, FNs, fA, fB, fC, f2, f1, fI, ↓reduceIte]
  have og := oprn hE hW (c := 7) (p1.1) e7 e10
  rw [og.2.1] at hU
  rw [kn] at hUl
  rw [m0, m1, m2, kn]
  have q1 := p1.2
  exact Or.inr (Or.inr (Or.inr (Or.inr (Or.inr (Or.inr (Or.inr (Or.inl ⟨rfl, by omega, by omega, by omega, rfl⟩)))))))
theorem JC_22 {d d' : HI} {n w : Nat} (h : NL d d' n w 22) (l u : Nat) (hu : d' 13 n = nI u ∨ ¬ 22 = 3) (hu2 : u < 2 ^ 31) (hll : d' 14 n = nI l ∨ ¬ 22 = 21) (hl2 : l < 2 ^ 31) : JC 22 (nk d' n) (nn (nwl 22).length (sX d n w 22) 0) (nn (nwl 22).length (sX d n w 22) 1) (nn (nwl 22).length (sX d n w 22) 2) l u := by
  have ha := (NL_a h).2.2
  have hW := h.2.1.1
  have hE := h.2.2.1
  have hL := LK_22 h
  rw [CK_22] at ha
  simp only [List.all_cons, List.all_nil, Bool.and_eq_true, id, and_true] at ha
  obtain ⟨b0, b1, b2⟩ := ha
  have e6 := N6 h (by decide)
  have kn := nkn hE hW e6.2 e6.1
  have hs := C2_t b0
  have hsx := Scx hW w hs.1
  have hok := hs.2
  simp (decide := true) only [Sok, ↓reduceIte] at hok
  have p1 := of_decide_eq_true b1
  have p2 := of_decide_eq_true b2
  have n3 := nsr hW w 3 (p1.1)
  have m0 : nn (nwl 22).length (sX d n w 22) 0 = ns d (NW d n w 3) := by unfold nn; rw [if_pos (by decide)]; rfl
  have m1 : nn (nwl 22).length (sX d n w 22) 1 = 0 := by unfold nn; rw [if_neg (by decide)]
  have m2 : nn (nwl 22).length (sX d n w 22) 2 = 0 := by unfold nn; rw [if_neg (by decide)]
  rw [m0, m1, m2, kn]
  rcases NU_cases d w 4 with ez | ⟨N, hN, eN, _⟩
  · have := p2.1; rw [ez] at this; exact absurd this (by decide)
  have q2 := p2.2
  rw [eN, nI_add, nI_eq (by omega) (by omega)] at q2
  exact Or.inr (Or.inr (Or.inr (Or.inr (Or.inr (Or.inr (Or.inr (Or.inr (Or.inl ⟨Or.inl rfl, by omega, n3.1, by omega, rfl⟩))))))))
theorem JC_23 {d d' : HI} {n w : Nat} (h : NL d d' n w 23) (l u : Nat) (hu : d' 13 n = nI u ∨ ¬ 23 = 3) (hu2 : u < 2 ^ 31) (hll : d' 14 n = nI l ∨ ¬ 23 = 21) (hl2 : l < 2 ^ 31) : JC 23 (nk d' n) (nn (nwl 23).length (sX d n w 23) 0) (nn (nwl 23).length (sX d n w 23) 1) (nn (nwl 23).length (sX d n w 23) 2) l u := by
  have ha := (NL_a h).2.2
  have hW := h.2.1.1
  have hE := h.2.2.1
  have hL := LK_23 h
  rw [CK_23] at ha
  simp only [List.all_cons, List.all_nil, Bool.and_eq_true, id, and_true] at ha
  obtain ⟨b0, b1, b2⟩ := ha
  have e6 := N6 h (by decide)
  have kn := nkn hE hW e6.2 e6.1
  have hs := C2_t b0
  have hsx := Scx hW w hs.1
  have hok := hs.2
  simp (decide := true) only [Sok, ↓reduceIte] at hok
  have p1 := of_decide_eq_true b1
  have p2 := of_decide_eq_true b2
  have n3 := nsr hW w 3 (p1.1)
  have m0 : nn (nwl 23).length (sX d n w 23) 0 = ns d (NW d n w 3) := by unfold nn; rw [if_pos (by decide)]; rfl
  have m1 : nn (nwl 23).length (sX d n w 23) 1 = 0 := by unfold nn; rw [if_neg (by decide)]
  have m2 : nn (nwl 23).length (sX d n w 23) 2 = 0 := by unfold nn; rw [if_neg (by decide)]
  rw [m0, m1, m2, kn]
  rcases NU_cases d w 4 with ez | ⟨N, hN, eN, _⟩
  · have := p2.1; rw [ez] at this; exact absurd this (by decide)
  have q2 := p2.2
  rw [eN, nI_add, nI_eq (by omega) (by omega)] at q2
  exact Or.inr (Or.inr (Or.inr (Or.inr (Or.inr (Or.inr (Or.inr (Or.inr (Or.inl ⟨Or.inr rfl, by omega, n3.1, by omega, rfl⟩))))))))
theorem JC_24 {d d' : HI} {n w : Nat} (h : NL d d' n w 24) (l u : Nat) (hu : d' 13 n = nI u ∨ ¬ 24 = 3) (hu2 : u < 2 ^ 31) (hll : d' 14 n = nI l ∨ ¬ 24 = 21) (hl2 : l < 2 ^ 31) : JC 24 (nk d' n) (nn (nwl 24).length (sX d n w 24) 0) (nn (nwl 24).length (sX d n w 24) 1) (nn (nwl 24).length (sX d n w 24) 2) l u := by
  have ha := (NL_a h).2.2
  have hW := h.2.1.1
  have hE := h.2.2.1
  have hL := LK_24 h
  rw [CK_24] at ha
  simp only [List.all_cons, List.all_nil, Bool.and_eq_true, id, and_true] at ha
  obtain ⟨b0, b1, b2, b3⟩ := ha
  have e6 := N6 h (by decide)
  have kn := nkn hE hW e6.2 e6.1
  have hs := C2_t b0
  have hsx := Scx hW w hs.1
  have p1 := of_decide_eq_true b1
  have p2 := of_decide_eq_true b2
  have p3 := of_decide_eq_true b3
  have n3 := nsr hW w 3 (p1.1)
  have n4 := nsr hW w 4 (p2.1)
  have n5 := nsr hW w 5 (p3.1)
  have m0 : nn (nwl 24).length (sX d n w 24) 0 = ns d (NW d n w 3) := by unfold nn; rw [if_pos (by decide)]; rfl
  have m1 : nn (nwl 24).length (sX d n w 24) 1 = ns d (NW d n w 4) := by unfold nn; rw [if_pos (by decide)]; rfl
  have m2 : nn (nwl 24).length (sX d n w 24) 2 = ns d (NW d n w 5) := by unfold nn; rw [if_pos (by decide)]; rfl
  rw [m0, m1, m2, kn]
  exact Or.inr (Or.inr (Or.inr (Or.inr (Or.inr (Or.inr (Or.inr (Or.inr (Or.inr (Or.inl ⟨rfl, hsx.2.1, hsx.2.2.1, hsx.2.2.2, p1.2, p2.2, p3.2⟩)))))))))
theorem JC_25 {d d' : HI} {n w : Nat} (h : NL d d' n w 25) (l u : Nat) (hu : d' 13 n = nI u ∨ ¬ 25 = 3) (hu2 : u < 2 ^ 31) (hll : d' 14 n = nI l ∨ ¬ 25 = 21) (hl2 : l < 2 ^ 31) : JC 25 (nk d' n) (nn (nwl 25).length (sX d n w 25) 0) (nn (nwl 25).length (sX d n w 25) 1) (nn (nwl 25).length (sX d n w 25) 2) l u := by
  have ha := (NL_a h).2.2
  have hW := h.2.1.1
  have hE := h.2.2.1
  have hL := LK_25 h
  rw [CK_25] at ha
  simp only [List.all_cons, List.all_nil, Bool.and_eq_true, id, and_true] at ha
  obtain ⟨b0, b1, b2⟩ := ha
  have e6 := N6 h (by decide)
  have kn := nkn hE hW e6.2 e6.1
  have hs := C2_t b0
  have hsx := Scx hW w hs.1
  have hok := hs.2
  simp (decide := true) only [Sok, ↓reduceIte] at hok
  have p1 := of_decide_eq_true b1
  have p2 := of_decide_eq_true b2
  have n3 := nsr hW w 3 (p1.1)
  have n4 := nsr hW w 4 (p2.1)
  have m0 : nn (nwl 25).length (sX d n w 25) 0 = ns d (NW d n w 3) := by unfold nn; rw [if_pos (by decide)]; rfl
  have m1 : nn (nwl 25).length (sX d n w 25) 1 = ns d (NW d n w 4) := by unfold nn; rw [if_pos (by decide)]; rfl
  have m2 : nn (nwl 25).length (sX d n w 25) 2 = 0 := by unfold nn; rw [if_neg (by decide)]
  rw [m0, m1, m2, kn]
  have q1 := p1.2.2
  unfold wdt at q1
  rw [if_neg p1.2.1, if_pos (by omega)] at q1
  have q0 := p1.2.1
  exact Or.inr (Or.inr (Or.inr (Or.inr (Or.inr (Or.inr (Or.inr (Or.inr (Or.inr (Or.inr (Or.inl ⟨rfl, by omega, by omega, by omega, p2.2.2⟩))))))))))
theorem JC_26 {d d' : HI} {n w : Nat} (h : NL d d' n w 26) (l u : Nat) (hu : d' 13 n = nI u ∨ ¬ 26 = 3) (hu2 : u < 2 ^ 31) (hll : d' 14 n = nI l ∨ ¬ 26 = 21) (hl2 : l < 2 ^ 31) : JC 26 (nk d' n) (nn (nwl 26).length (sX d n w 26) 0) (nn (nwl 26).length (sX d n w 26) 1) (nn (nwl 26).length (sX d n w 26) 2) l u := by
  have ha := (NL_a h).2.2
  have hW := h.2.1.1
  have hE := h.2.2.1
  have hL := LK_26 h
  rw [CK_26] at ha
  simp only [List.all_cons, List.all_nil, Bool.and_eq_true, id, and_true] at ha
  obtain ⟨b0, b1, b2, b3⟩ := ha
  have e6 := N6 h (by decide)
  have kn := nkn hE hW e6.2 e6.1
  have hs := C2_t b0
  have hsx := Scx hW w hs.1
  have hok := hs.2
  simp (decide := true) only [Sok, ↓reduceIte] at hok
  have p1 := of_decide_eq_true b1
  have p2 := of_decide_eq_true b2
  have p3 := of_decide_eq_true b3
  have n3 := nsr hW w 3 (p1.1)
  have n4 := nsr hW w 4 (p2.1)
  have n5 := nsr hW w 5 (p3.1)
  have m0 : nn (nwl 26).length (sX d n w 26) 0 = ns d (NW d n w 3) := by unfold nn; rw [if_pos (by decide)]; rfl
  have m1 : nn (nwl 26).length (sX d n w 26) 1 = ns d (NW d n w 4) := by unfold nn; rw [if_pos (by decide)]; rfl
  have m2 : nn (nwl 26).length (sX d n w 26) 2 = ns d (NW d n w 5) := by unfold nn; rw [if_pos (by decide)]; rfl
  rw [m0, m1, m2, kn]
  have q1 := p1.2.2
  have q3 := p3.2.2
  unfold wdt at q1 q3
  rw [if_neg p1.2.1, if_neg hok] at q1
  rw [if_neg hok] at q3
  have q0 := p1.2.1
  exact Or.inr (Or.inr (Or.inr (Or.inr (Or.inr (Or.inr (Or.inr (Or.inr (Or.inr (Or.inr (Or.inr (⟨rfl, by omega, by omega, by omega, p2.2.2, q3⟩)))))))))))
theorem JC_n {d d' : HI} {n w κ : Nat} (hκ : 3 ≤ κ ∧ κ ≤ 26) (h : NL d d' n w κ) (l u : Nat) (hu : d' 13 n = nI u ∨ ¬ κ = 3) (hu2 : u < 2 ^ 31) (hll : d' 14 n = nI l ∨ ¬ κ = 21) (hl2 : l < 2 ^ 31) : JC κ (nk d' n) (nn (nwl κ).length (sX d n w κ) 0) (nn (nwl κ).length (sX d n w κ) 1) (nn (nwl κ).length (sX d n w κ) 2) l u := by
  have hc : κ = 3 ∨ κ = 4 ∨ κ = 5 ∨ κ = 6 ∨ κ = 7 ∨ κ = 8 ∨ κ = 9 ∨ κ = 10 ∨ κ = 11 ∨ κ = 12 ∨ κ = 13 ∨ κ = 14 ∨ κ = 15 ∨ κ = 16 ∨ κ = 17 ∨ κ = 18 ∨ κ = 19 ∨ κ = 20 ∨ κ = 21 ∨ κ = 22 ∨ κ = 23 ∨ κ = 24 ∨ κ = 25 ∨ κ = 26 := by omega
  rcases hc with rfl | rfl | rfl | rfl | rfl | rfl | rfl | rfl | rfl | rfl | rfl | rfl | rfl | rfl | rfl | rfl | rfl | rfl | rfl | rfl | rfl | rfl | rfl | rfl
  · exact JC_3 h l u hu hu2 hll hl2
  · exact JC_4 h l u hu hu2 hll hl2
  · exact JC_5 h l u hu hu2 hll hl2
  · exact JC_6 h l u hu hu2 hll hl2
  · exact JC_7 h l u hu hu2 hll hl2
  · exact JC_8 h l u hu hu2 hll hl2
  · exact JC_9 h l u hu hu2 hll hl2
  · exact JC_10 h l u hu hu2 hll hl2
  · exact JC_11 h l u hu hu2 hll hl2
  · exact JC_12 h l u hu hu2 hll hl2
  · exact JC_13 h l u hu hu2 hll hl2
  · exact JC_14 h l u hu hu2 hll hl2
  · exact JC_15 h l u hu hu2 hll hl2
  · exact JC_16 h l u hu hu2 hll hl2
  · exact JC_17 h l u hu hu2 hll hl2
  · exact JC_18 h l u hu hu2 hll hl2
  · exact JC_19 h l u hu hu2 hll hl2
  · exact JC_20 h l u hu hu2 hll hl2
  · exact JC_21 h l u hu hu2 hll hl2
  · exact JC_22 h l u hu hu2 hll hl2
  · exact JC_23 h l u hu hu2 hll hl2
  · exact JC_24 h l u hu hu2 hll hl2
  · exact JC_25 h l u hu hu2 hll hl2
  · exact JC_26 h l u hu hu2 hll hl2
theorem cnx_n {κ : Nat} (hκ : 3 ≤ κ ∧ κ ≤ 26) : (nwl κ).length = cnx κ ∧ ∀ m, m < cnx κ → (nwl κ).getD m 0 = 3 + m := by
  have hc : κ = 3 ∨ κ = 4 ∨ κ = 5 ∨ κ = 6 ∨ κ = 7 ∨ κ = 8 ∨ κ = 9 ∨ κ = 10 ∨ κ = 11 ∨ κ = 12 ∨ κ = 13 ∨ κ = 14 ∨ κ = 15 ∨ κ = 16 ∨ κ = 17 ∨ κ = 18 ∨ κ = 19 ∨ κ = 20 ∨ κ = 21 ∨ κ = 22 ∨ κ = 23 ∨ κ = 24 ∨ κ = 25 ∨ κ = 26 := by omega
  rcases hc with rfl | rfl | rfl | rfl | rfl | rfl | rfl | rfl | rfl | rfl | rfl | rfl | rfl | rfl | rfl | rfl | rfl | rfl | rfl | rfl | rfl | rfl | rfl | rfl <;> decide
theorem oid_n {d d' : HI} {n w κ : Nat} (hκ : 3 ≤ κ ∧ κ ≤ 26) (h : NL d d' n w κ) : (κ = 3 → d' 13 n = NU d w 3) ∧ (κ = 21 → d' 14 n = NU d w 5) := by
  obtain ⟨f, hf⟩ := NL_f h
  refine ⟨fun q => ?_, fun q => ?_⟩
  · subst q
    rw [hf 13 (by omega) (by omega)]
    simp (decide := true) only [FN, FNr, FNs, fA, fB, fC, f2, f1, fI, ↓reduceIte]
  · subst q
    rw [hf 14 (by omega) (by omega)]
    simp (decide := true) only [FN, FNr, FNs, fA, fB, fC, f2, f1, fI, ↓reduceIte]
