theorem pX_isStateAsS {hx : HI} {hl : HL} {Φ : Int32 → HI → HL → Prop} (k κ c S : Nat) (hκ : κ ≤ 30) (t : Bool) (h1 : hx (24 + k) 1 = nI κ) (h2 : hx (24 + k) 2 = nI c) (h4 : hx 10 4 = nI S) (hc : c ≤ 7) (hS : S ≤ 7) (h : Φ (bI (decide (t = false ∧ κ = 2 ∧ c = S))) hx hl) : wpD_isStateAsS k (bI t) hx hl Φ := by
  unfold wpD_isStateAsS wbD_isStateAsS_0 wbD_isStateAsS_29
  have no : ¬ (t = false ∧ κ = 2 ∧ c = S) → i01 0 ∧ Φ 0 hx hl := fun q => by rw [decide_eq_false q] at h; exact ⟨i01_0, h⟩
  rw [h1, h2, h4]
  refine br_c (fun q => ⟨vp_in_nI (by omega) (by omega), vp31 2 (by omega), ?_⟩) (fun q => no (fun y => ?_))
  · rw [bI_0] at q
    refine pk_eq κ 2 (fun z => pk_eq c S (fun y => ⟨i01_1, ?_⟩) (fun y => no (fun x => y x.2.2))) (fun z => no (fun x => z x.2.1))
    rw [decide_eq_true ⟨q, z, y⟩] at h; exact h
  · rw [bI_ne] at q; rw [q] at y; exact absurd y.1 (by decide)
/-- what a letter asks of a node of the sort c, if S is the line's sort, last that of the node before -/
def LQ (d : HI) (n : Nat) (ℓ : Int32) (k c S last : Nat) (t : Bool) (P : Bool) : Prop :=
  (ℓ = 98 ∧ P = decide (c ≤ 4)) ∨ (ℓ = 111 ∧ P = decide (c = 1)) ∨ (ℓ = 115 ∧ P = decide (c = S)) ∨ (ℓ = 108 ∧ P = decide (c = last)) ∨ (ℓ = 109 ∧ P = decide (c < S)) ∨ (ℓ = 114 ∧ last ≤ S ∧ P = decide (c = S - last)) ∨ (ℓ = 121 ∧ P = decide (c = 4 + S)) ∨ (ℓ = 101 ∧ 4 ≤ S ∧ P = decide (c = S - 4)) ∨ (ℓ = 110 ∧ P = true) ∨ (ℓ = 105 ∧ P = decide (t = false ∧ d 5 k = 2 ∧ c = S ∧ hsq d (nI 27) (nI k) n = false)) ∨ (ℓ = 120 ∧ P = decide (t = false ∧ d 5 k = 2 ∧ c = S ∧ hsq d (nI 28) (nI k) n = false)) ∨ (ℓ = 102 ∧ P = decide (c = S ∧ FR d k = false))
theorem pX_suits {d hx : HI} {n w : Nat} {hl : HL} (hR : RX d hx n w) (ℓ : Int32) (k c S last : Nat) (hk : k < n) (hno : nod (d 5 k)) (t P : Bool) (h2 : hx (24 + k) 2 = nI c) (hc : c ≤ 7) (hS : S ≤ 7) (hla : last ≤ 7) (h4 : hx 10 4 = nI S ∨ ℓ = 111) (h8 : (ℓ = 108 ∨ ℓ = 114) → hx 10 8 = nI last) (hQ : LQ d n ℓ k c S last t P) (Ψ : Int32 → HI → HL → Prop) (h : Ψ (bI P) hx hl) : wpD_suits ℓ k (bI t) hx hl Ψ := by
  obtain ⟨⟨κ, hκ, eκ⟩, hL⟩ := hR.2.2.2.2.2.2.2.2 k hk
  unfold wpD_suits wbD_suits_0 wbD_suits_276 wbD_suits_298 wbD_suits_322
  have y1 : P = true → i01 1 ∧ Ψ 1 hx hl := fun q => by rw [q] at h; exact ⟨i01_1, h⟩
  have y0 : P = false → i01 0 ∧ Ψ 0 hx hl := fun q => by rw [q] at h; exact ⟨i01_0, h⟩
  have e2 : (d 5 k = 2) = (κ = 2) := by rw [eκ]; exact propext (nI_eq (b := 2) (by omega) (by omega))
  have k1 : hx (24 + k) 1 = nI κ := by rw [hL.2.1, eκ]
  rcases hQ with ⟨e, hP⟩ | ⟨e, hP⟩ | ⟨e, hP⟩ | ⟨e, hP⟩ | ⟨e, hP⟩ | ⟨e, hle, hP⟩ | ⟨e, hP⟩ | ⟨e, hle, hP⟩ | ⟨e, hP⟩ | ⟨e, hP⟩ | ⟨e, hP⟩ | ⟨e, hP⟩ <;> subst e <;> simp (decide := true) only [false_implies, true_implies, and_true, true_and, not_true, not_false_eq_true]
  · rw [h2, pX_isArray _ hc]
    refine br_c (fun q => y1 ?_) (fun q => y0 ?_)
    · rw [bI_0, decide_eq_false_iff_not, Decidable.not_not] at q; rw [hP]; exact decide_eq_true q
    · rw [bI_ne, decide_eq_true_eq] at q; rw [hP]; exact decide_eq_false q
  · rw [h2]
    exact pk_eq c 1 (fun q => y1 (by rw [hP]; exact decide_eq_true q)) (fun q => y0 (by rw [hP]; exact decide_eq_false q))
  · rw [h2, h4.resolve_right (by decide)]
    exact pk_eq c S (fun q => y1 (by rw [hP]; exact decide_eq_true q)) (fun q => y0 (by rw [hP]; exact decide_eq_false q))
  · rw [h2, h8 (Or.inl rfl)]
    exact pk_eq c last (fun q => y1 (by rw [hP]; exact decide_eq_true q)) (fun q => y0 (by rw [hP]; exact decide_eq_false q))
  · rw [h2, h4.resolve_right (by decide)]
    exact pk_le S c (fun q => y0 (by rw [hP]; exact decide_eq_false (by omega))) (fun q => y1 (by rw [hP]; exact decide_eq_true q))
  · rw [h2, h4.resolve_right (by decide), h8 (Or.inr rfl), pk_sub hle]
    exact pk_eq c (S - last) (fun q => y1 (by rw [hP]; exact decide_eq_true q)) (fun q => y0 (by rw [hP]; exact decide_eq_false q))
  · rw [h2, h4.resolve_right (by decide)]
    exact pk_eq c (4 + S) (fun q => y1 (by rw [hP]; exact decide_eq_true q)) (fun q => y0 (by rw [hP]; exact decide_eq_false q)) rfl (nI_add 4 S)
  · rw [h2, h4.resolve_right (by decide)]
    exact pk_eq c (S - 4) (fun q => y1 (by rw [hP]; exact decide_eq_true q)) (fun q => y0 (by rw [hP]; exact decide_eq_false q)) rfl (pk_sub (b := 4) hle)
  · exact y1 hP
  · refine pX_isStateAsS k κ c S hκ t k1 h2 (h4.resolve_right (by decide)) hc hS ?_
    simp only [e2] at hP
    refine br_c (fun q => y0 ?_) (fun q => ?_)
    · rw [bI_0, decide_eq_false_iff_not] at q
      rw [hP]; exact decide_eq_false (fun y => q ⟨y.1, y.2.1, y.2.2.1⟩)
    · rw [bI_ne, decide_eq_true_eq] at q
      have h5 := (hL.2.2.2.2 (by rw [e2]; exact q.2.1)).1
      refine br_c (fun z => y1 ?_) (fun z => y0 ?_)
      · rw [hP]; exact decide_eq_true ⟨q.1, q.2.1, q.2.2, h5.mp z⟩
      · rw [hP]; exact decide_eq_false (fun y => z (h5.mpr y.2.2.2))
  · refine pX_isStateAsS k κ c S hκ t k1 h2 (h4.resolve_right (by decide)) hc hS ?_
    simp only [e2] at hP
    refine br_c (fun q => y0 ?_) (fun q => ?_)
    · rw [bI_0, decide_eq_false_iff_not] at q
      rw [hP]; exact decide_eq_false (fun y => q ⟨y.1, y.2.1, y.2.2.1⟩)
    · rw [bI_ne, decide_eq_true_eq] at q
      have h6 := (hL.2.2.2.2 (by rw [e2]; exact q.2.1)).2
      rw [h6]
      refine br_c (fun z => y1 ?_) (fun z => y0 ?_)
      · rw [bI_0] at z; rw [hP]; exact decide_eq_true ⟨q.1, q.2.1, q.2.2, z⟩
      · rw [bI_ne] at z; rw [hP]; exact decide_eq_false (fun y => by rw [z] at y; exact absurd y.2.2.2 (by decide))
  · have h3 := (hL.2.2.2.1 hno).2
    rw [h2, h4.resolve_right (by decide), h3]
    refine pk_eq c S (fun q => br_c (fun z => y0 ?_) (fun z => y1 ?_)) (fun q => y0 (by rw [hP]; exact decide_eq_false (fun y => q y.1)))
    · rw [bI_0] at z; rw [hP]; exact decide_eq_false (fun y => by rw [y.2] at z; exact absurd z (by decide))
    · rw [bI_ne] at z; rw [hP]
      refine decide_eq_true ⟨q, ?_⟩
      cases f : FR d k
      · rfl
      · rw [f] at z; exact absurd z (by decide)
/-- a node's letter as a step -/
theorem stD {d hx : HI} {n w : Nat} {hl : HL} (hT : TXw d w) (hW : WL d n) (hI : WI d n) (hR : RX d hx n w) (ℓ : Int32) (j : Nat) (hj : j < 99) (cnt S last : Nat) (hcnt : hx 10 7 = nI cnt) (hc3 : cnt < 3) (hS : S ≤ 7) (hla : last ≤ 7) (h4 : hx 10 4 = nI S ∨ ℓ = 111) (h8 : (ℓ = 108 ∨ ℓ = 114) → hx 10 8 = nI last)
    (b P : Bool) (hb : b = (decide (0 ≤ NW d n w j) && P)) (hQ : 0 ≤ NW d n w j → LQ d n ℓ (NW d n w j).toNatClampNeg (ns d (NW d n w j)) S last (TN d w j) P) (hlo : ¬ ℓ = 66 ∧ ¬ ℓ = 73 ∧ ¬ ℓ = 79 ∧ ¬ ℓ = 83 ∧ ¬ ℓ = 84 ∧ ¬ ℓ = 89 ∧ ¬ ℓ = 76 ∧ ¬ ℓ = 78 ∧ ¬ ℓ = 85 ∧ ¬ ℓ = 86) : StepX d n w hl ℓ j hx b (ndX hx cnt (NW d n w j) (bI (TN d w j)) (ns d (NW d n w j))) := by
  intro Ψ h0 h1
  have hn := hW.1
  have key : wpD_nodeFits ℓ (nI j) hx hl (fun r1 hi2 hl3 => i01 r1 ∧ Ψ r1 hi2 hl3) := by
    refine pX_nodeFits hT hW hI hR ℓ j hj cnt hcnt hc3 P (fun k s' e hk hs' e5 hno en hx2 Θ hΘ => ?_) (fun q => ⟨i01_0, h0 (hb.trans q) _ hR (FX_r _)⟩) (fun q => ⟨i01_1, h1 (hb.trans q)⟩)
    have hr := sc_r hW hs' e5
    have h0' : 0 ≤ NW d n w j := by rw [e]; exact nI_pos' (by omega)
    have := hQ h0'
    rw [e, nI_clamp (by omega), ← e] at this
    exact pX_suits hR ℓ k (ns d (NW d n w j)) S last hk hno _ P hx2 (by omega) hS hla h4 h8 this Θ hΘ
  unfold wpD_fits wbD_fits_0
  obtain ⟨q1, q2, q3, q4, q5, q6, q7, q8, q9, q10⟩ := hlo
  simp only [q1, q2, q3, q4, q5, q6, q7, q8, q9, q10, false_implies, true_and, not_false_eq_true, true_implies]
  refine ⟨?_, ?_, ?_, ?_, ?_, ?_, ?_, ?_, ?_, ?_, ?_, ?_, ?_, ?_, ?_⟩ <;> intros <;> exact key
