/-! X reads words: its state hx against the state d of M (text, words, lines) -/
/-- IDs: 1 .. 99, each greater than the one before -/
def WI (d : HI) (n : Nat) : Prop := (∀ k, k < n → ∃ i, 1 ≤ i ∧ i ≤ 99 ∧ d 4 k = nI i) ∧ (∀ a b, a < n → b < n → d 4 a = d 4 b → a = b)
def LX (d : HI) (n k : Nat) (hx : HI) : Prop := hx (24 + k) 0 = d 4 k ∧ hx (24 + k) 1 = d 5 k ∧ (d 5 k = 0 → hx (24 + k) 2 = nI (sc d k)) ∧ (nod (d 5 k) → hx (24 + k) 2 = nI (sc d (d 6 k).toNatClampNeg) ∧ hx (24 + k) 3 = bI (! FR d k)) ∧ (d 5 k = 2 → ((hx (24 + k) 5 = -1) ↔ (hsq d (nI 27) (nI k) n = false)) ∧ hx (24 + k) 6 = bI (hsq d (nI 28) (nI k) n))
def RX (d hx : HI) (n w : Nat) : Prop := hx 5 2 = nI n ∧ hx 1 4 = nI w ∧ hx 2 = d 1 ∧ hx 3 = d 2 ∧ hx 4 = d 3 ∧ hx 5 3 = nI (tot d (nI 1) n) ∧ hx 5 4 = nI (tot d (nI 2) n) ∧ hx 5 5 = nI (hrd d n) ∧ ∀ k, k < n → (∃ κ, κ ≤ 30 ∧ d 5 k = nI κ) ∧ LX d n k hx
theorem RX_u {d hx : HI} {n w : Nat} (h : RX d hx n w) (c k : Nat) (x : Int32) (h1 : 10 ≤ c) (h2 : c ≤ 12) : RX d (u2 hx c k x) n w := by
  obtain ⟨a1, a2, a3, a4, a5, a6, a7, a8, a9⟩ := h
  refine ⟨?_, ?_, ?_, ?_, ?_, ?_, ?_, ?_, fun j hj => ⟨(a9 j hj).1, ?_⟩⟩
  · rw [u2_c _ _ _ _ (by omega)]; exact a1
  · rw [u2_c _ _ _ _ (by omega)]; exact a2
  · rw [u2_cf _ _ _ (by omega)]; exact a3
  · rw [u2_cf _ _ _ (by omega)]; exact a4
  · rw [u2_cf _ _ _ (by omega)]; exact a5
  · rw [u2_c _ _ _ _ (by omega)]; exact a6
  · rw [u2_c _ _ _ _ (by omega)]; exact a7
  · rw [u2_c _ _ _ _ (by omega)]; exact a8
  · unfold LX
    rw [u2_cf hx (c := c) (a := 24 + j) k x (by omega)]
    exact (a9 j hj).2
noncomputable def NS (d : HI) (w j sk : Nat) : Int32 := if j < w then dg (d 1) ((d 2 j).toNatClampNeg + sk) (d 3 j).toNatClampNeg else -1
theorem NS_0 (d : HI) (w j : Nat) : NS d w j 0 = NU d w j := rfl
theorem pX_number {d hx : HI} {n w : Nat} {hl : HL} {Φ : Int32 → HI → HL → Prop} (hT : TXw d w) (hR : RX d hx n w) (j sk : Nat) (hj : j < 100) (hsk : sk ≤ 1) (h : Φ (NS d w j sk) hx hl) : wpT_number (nI j) (nI sk) hx hl Φ := by
  obtain ⟨a1, a2, a3, a4, a5, _⟩ := hR
  unfold wpT_number wbT_number_0
  have hw := hT.1
  rw [a2]
  refine pk_lt j w (fun c => ?_) (fun c => ?_)
  · obtain ⟨f, t, ef, et, ft, t40⟩ := hT.2 j c
    have hv : vp_in (nI j) 20 := vp_in_nI (by omega) (by omega)
    have hcj : (nI j).toNatClampNeg = j := nI_clamp (by omega)
    have hN : NS d w j sk = dg (d 1) (f + sk) t := by
      unfold NS; rw [if_pos c, ef, et, nI_clamp (by omega), nI_clamp (by omega)]
    rw [hN] at h
    rw [hcj, a4, a5, ef, et, nI_add, pk_sub (by omega)]
    refine ⟨hv, hv, ?_⟩
    have r60 : t = f + sk + 1 ∨ (t = f + sk + 2 ∧ ¬ d 1 (f + sk) = 48) → wbT_number_60 (nI j) (nI (f + sk)) hx hl Φ := fun q => by
      unfold wbT_number_60
      refine ⟨3, ?_⟩
      unfold wbT_number_66
      rw [hcj, a5, et, nI_clamp (by omega), a3]
      refine ⟨hv, br_f (nI_ge (by omega) (by omega)) ⟨vp_in_nI (by omega) (by omega), ?_⟩⟩
      refine br_c (fun z => ?_) (fun z => ⟨vp_in_nI (by omega) (by omega), br_c (fun z2 => ⟨vp_in_nI (by omega) (by omega), ?_⟩) (fun z2 => ?_)⟩)
      · have : dg (d 1) (f + sk) t = -1 := by
          unfold dg
          rw [if_neg (fun y => by have := y.2.1; rw [← i32_nlt] at this; exact this z), if_neg (fun y => by have := y.2.2.1.1; rw [← i32_nlt] at this; exact this z)]
        rw [this] at h; exact h
      · rw [i32_nlt] at z
        have e0 : (10 : Int32) * 0 + (d 1 (f + sk) - 48) = d 1 (f + sk) - 48 := by simp
        rw [nI_n1, nI_1, e0]
        unfold wbT_number_66
        rw [hcj, a5, et]
        refine ⟨hv, ?_⟩
        rcases q with q | ⟨q, q48⟩
        · refine br_t (nI_le (by omega) (by omega)) ?_
          have : dg (d 1) (f + sk) t = d 1 (f + sk) - 48 := by unfold dg; rw [if_pos ⟨q, z, z2⟩]
          rw [this] at h; exact h
        · refine br_f (nI_ge (by omega) (by omega)) ⟨vp_in_nI (by omega) (by omega), ?_⟩
          rw [nI_clamp (by omega), a3]
          refine br_c (fun y => ?_) (fun y => ⟨vp_in_nI (by omega) (by omega), br_c (fun y2 => ⟨vp_in_nI (by omega) (by omega), ?_⟩) (fun y2 => ?_)⟩)
          · have : dg (d 1) (f + sk) t = -1 := by
              unfold dg
              rw [if_neg (by omega), if_neg (fun x => by have := x.2.2.2.1; rw [← i32_nlt] at this; exact this y)]
            rw [this] at h; exact h
          · rw [i32_nlt] at y
            rw [nI_n1, nI_1]
            unfold wbT_number_66
            rw [hcj, a5, et]
            refine ⟨hv, br_t (nI_le (by omega) (by omega)) ?_⟩
            have : dg (d 1) (f + sk) t = 10 * (d 1 (f + sk) - 48) + (d 1 (f + sk + 1) - 48) := by
              unfold dg
              rw [if_neg (by omega), if_pos ⟨q, q48, ⟨z, z2⟩, ⟨y, y2⟩⟩, Int32.sub_eq_add_neg, Int32.add_assoc, ← Int32.sub_eq_add_neg]
            rw [this] at h; exact h
          · have : dg (d 1) (f + sk) t = -1 := by
              unfold dg
              rw [if_neg (by omega), if_neg (fun x => y2 x.2.2.2.2)]
            rw [this] at h; exact h
      · have : dg (d 1) (f + sk) t = -1 := by
          unfold dg
          rw [if_neg (fun y => z2 y.2.2), if_neg (fun y => z2 y.2.2.1.2)]
        rw [this] at h; exact h
    refine pk_lt (t - (f + sk)) 1 (fun q => ?_) (fun q => pk_lt 2 (t - (f + sk)) (fun q2 => ?_) (fun q2 => pk_eq (t - (f + sk)) 2 (fun q3 => ?_) (fun q3 => r60 (Or.inl (by omega)))))
    · have : dg (d 1) (f + sk) t = -1 := by unfold dg; rw [if_neg (by omega), if_neg (by omega)]
      rw [this] at h; exact h
    · have : dg (d 1) (f + sk) t = -1 := by unfold dg; rw [if_neg (by omega), if_neg (by omega)]
      rw [this] at h; exact h
    · rw [nI_clamp (by omega), a3]
      refine ⟨vp_in_nI (by omega) (by omega), br_c (fun z => ?_) (fun z => r60 (Or.inr ⟨by omega, z⟩))⟩
      have : dg (d 1) (f + sk) t = -1 := by
        unfold dg; rw [if_neg (by omega), if_neg (fun y => y.2.1 z)]
      rw [this] at h; exact h
  · have : NS d w j sk = -1 := by unfold NS; rw [if_neg (by omega)]
    rw [this] at h; exact h
theorem pX_hasMinus {d hx : HI} {n w : Nat} {hl : HL} {Φ : Int32 → HI → HL → Prop} (hT : TXw d w) (hR : RX d hx n w) (j : Nat) (hj : j < 100) (h : Φ (bI (TN d w j)) hx hl) : wpT_hasMinus (nI j) hx hl Φ := by
  obtain ⟨a1, a2, a3, a4, a5, _⟩ := hR
  unfold wpT_hasMinus wbT_hasMinus_0 wbT_hasMinus_28
  have hw := hT.1
  rw [a2]
  refine pk_le w j (fun c => ?_) (fun c => ?_)
  · have : TN d w j = false := by unfold TN; exact decide_eq_false (fun x => absurd x.1 (by omega))
    rw [this] at h; exact ⟨i01_0, h⟩
  · obtain ⟨f, t, ef, et, ft, t40⟩ := hT.2 j c
    rw [nI_clamp (by omega), a4, ef, nI_clamp (by omega), a3]
    refine ⟨vp_in_nI (by omega) (by omega), vp_in_nI (by omega) (by omega), br_c (fun q => ⟨i01_1, ?_⟩) (fun q => ⟨i01_0, ?_⟩)⟩
    · have : TN d w j = true := by unfold TN; rw [ef, nI_clamp (by omega)]; exact decide_eq_true ⟨c, q⟩
      rw [this] at h; exact h
    · have : TN d w j = false := by unfold TN; rw [ef, nI_clamp (by omega)]; exact decide_eq_false (fun x => q x.2)
      rw [this] at h; exact h
theorem pX_rowWith {d hx : HI} {n w : Nat} {hl : HL} {Φ : Int32 → HI → HL → Prop} (hn : n ≤ 20) (hI : WI d n) (hR : RX d hx n w) (x : Int32) (h : Φ (lof (d 4) x n) hx hl) : wpB_rowWith x hx hl Φ := by
  unfold wpB_rowWith wbB_rowWith_0
  refine loop_0 (fun fu i (_ : Unit) => wbB_rowWith_2 fu x (nI i) hx hl Φ) (fun i _ => ∀ a, a < i → d 4 a ≠ x) n () (fun a ha => absurd ha (by omega)) (fun k _ hk => ?_) (fun k i _ hi hk ih => ?_)
  · unfold wbB_rowWith_2
    refine br_t (by rw [hR.1]; exact nI_le (Nat.le_refl _) (by omega)) ?_
    rcases lof_cases (d 4) x n with ⟨e, _⟩ | ⟨a, ha, e, _⟩
    · rw [e] at h; exact h
    · exact absurd e (hk a ha)
  · unfold wbB_rowWith_2
    refine br_f (by rw [hR.1]; exact nI_ge hi (by omega)) ⟨vp_in_nI (by omega) (by omega), ?_⟩
    rw [nI_clamp (by omega), (hR.2.2.2.2.2.2.2.2 i hi).2.1, nI_n1, nI_1]
    refine br_c (fun q => ?_) (fun q => ?_)
    · rcases lof_cases (d 4) x n with ⟨_, e⟩ | ⟨a, ha, e, e2⟩
      · exact absurd q (e i hi)
      · have : a = i := hI.2 a i ha hi (e.trans q.symm)
        subst this
        rw [e2] at h; exact h
    · refine ih () (fun a ha => ?_)
      by_cases z : a = i
      · subst z; exact q
      · exact hk a (by omega)
theorem vp31 (k : Nat) (h : k < 31) : vp_in (nI k) 31 := vp_in_nI h (by omega)
theorem pX_isNode {hx : HI} {hl : HL} {Φ : Int32 → HI → HL → Prop} (κ : Nat) (hκ : κ ≤ 30) (h : Φ (bI (decide (1 ≤ κ ∧ κ ≤ 26))) hx hl) : wpK_isNode (nI κ) hx hl Φ := by
  unfold wpK_isNode wbK_isNode_0 wbK_isNode_39
  have hv : vp_in (nI κ) 31 := vp_in_nI (by omega) (by omega)
  have no : (κ = 0 ∨ 27 ≤ κ) → i01 0 ∧ Φ 0 hx hl := fun q => by
    rw [decide_eq_false (by omega)] at h; exact ⟨i01_0, h⟩
  refine ⟨hv, vp31 0 (by decide), pk_eq κ 0 (fun q => no (Or.inl q)) (fun q0 => ⟨hv, vp31 27 (by decide), pk_eq κ 27 (fun q => no (by omega)) (fun q7 => ⟨hv, vp31 28 (by decide), pk_eq κ 28 (fun q => no (by omega)) (fun q8 => ⟨hv, vp31 29 (by decide), pk_eq κ 29 (fun q => no (by omega)) (fun q9 => ⟨hv, vp31 30 (by decide), pk_eq κ 30 (fun q => no (by omega)) (fun q3 => ⟨i01_1, ?_⟩)⟩)⟩)⟩)⟩)⟩
  rw [decide_eq_true (by omega)] at h; exact h
theorem pX_isHard {hx : HI} {hl : HL} {Φ : Int32 → HI → HL → Prop} (κ : Nat) (hκ : κ ≤ 30) (h : Φ (bI (decide (12 ≤ κ ∧ κ ≤ 14))) hx hl) : wpK_isHard (nI κ) hx hl Φ := by
  unfold wpK_isHard wbK_isHard_0 wbK_isHard_21
  have hv : vp_in (nI κ) 31 := vp_in_nI (by omega) (by omega)
  have no : (12 ≤ κ ∧ κ ≤ 14) → i01 1 ∧ Φ 1 hx hl := fun q => by
    rw [decide_eq_true q] at h; exact ⟨i01_1, h⟩
  refine ⟨hv, vp31 12 (by decide), pk_eq κ 12 (fun q => no (by omega)) (fun q0 => ⟨hv, vp31 13 (by decide), pk_eq κ 13 (fun q => no (by omega)) (fun q7 => ⟨hv, vp31 14 (by decide), pk_eq κ 14 (fun q => no (by omega)) (fun q8 => ⟨i01_0, ?_⟩)⟩)⟩)⟩
  rw [decide_eq_false (by omega)] at h; exact h
theorem nod_κ {κ : Nat} (hκ : κ ≤ 30) : nod (nI κ) ↔ (1 ≤ κ ∧ κ ≤ 26) := by
  unfold nod
  have e1 : (nI κ = 0) ↔ κ = 0 := nI_eq (b := 0) (by omega) (by omega)
  have e2 : ((27 : Int32) ≤ nI κ) ↔ 27 ≤ κ := nI_leI (a := 27) (by omega) (by omega)
  rw [e1, e2]; omega
/-- the node with an ID, or -1 -/
noncomputable def NY (d : HI) (n : Nat) (x : Int32) : Int32 := if 0 ≤ lof (d 4) x n ∧ ¬ d 5 (lof (d 4) x n).toNatClampNeg = 0 ∧ ¬ 27 ≤ d 5 (lof (d 4) x n).toNatClampNeg then lof (d 4) x n else -1
theorem pX_nodeWith {d hx : HI} {n w : Nat} {hl : HL} {Φ : Int32 → HI → HL → Prop} (hn : n ≤ 20) (hI : WI d n) (hR : RX d hx n w) (x : Int32) (h : Φ (NY d n x) hx hl) : wpB_nodeWith x hx hl Φ := by
  unfold wpB_nodeWith wbB_nodeWith_0 wbB_nodeWith_30
  refine pX_rowWith hn hI hR x ?_
  unfold NY at h
  rcases lof_cases (d 4) x n with ⟨e, _⟩ | ⟨a, ha, e, e2⟩
  · rw [e] at h ⊢
    rw [if_neg (fun y => absurd y.1 (by decide))] at h
    exact br_t rfl h
  · rw [e2] at h ⊢
    rw [nI_clamp (by omega)] at h ⊢
    obtain ⟨⟨κ, hκ, eκ⟩, hL⟩ := hR.2.2.2.2.2.2.2.2 a ha
    have hp : (0 : Int32) ≤ nI a := nI_pos' (by omega)
    refine br_f (fun y => absurd (y ▸ hp) (by decide)) ⟨vp_in_nI (by omega) (by omega), ?_⟩
    rw [hL.2.1, eκ]
    refine ⟨vp_in_nI (by omega) (by omega), pX_isNode κ hκ ?_⟩
    have nk := nod_κ hκ
    rw [eκ] at h
    refine br_c (fun q => ?_) (fun q => ?_)
    · rw [bI_0, decide_eq_false_iff_not, ← nk] at q
      rw [if_neg (fun y => q ⟨y.2.1, y.2.2⟩)] at h; exact h
    · rw [bI_ne, decide_eq_true_eq, ← nk] at q
      rw [if_pos ⟨hp, q.1, q.2⟩] at h; exact h
/-- the sort with an ID, or -1 -/
noncomputable def SY (d : HI) (n : Nat) (x : Int32) : Int32 := if 0 ≤ lof (d 4) x n ∧ d 5 (lof (d 4) x n).toNatClampNeg = 0 then nI (sc d (lof (d 4) x n).toNatClampNeg) else -1
theorem pX_sortOf {d hx : HI} {n w : Nat} {hl : HL} {Φ : Int32 → HI → HL → Prop} (hn : n ≤ 20) (hI : WI d n) (hR : RX d hx n w) (x : Int32) (h : Φ (SY d n x) hx hl) : wpB_sortOf x hx hl Φ := by
  unfold wpB_sortOf wbB_sortOf_0 wbB_sortOf_38
  refine pX_rowWith hn hI hR x ?_
  unfold SY at h
  rcases lof_cases (d 4) x n with ⟨e, _⟩ | ⟨a, ha, e, e2⟩
  · rw [e] at h ⊢
    rw [if_neg (fun y => absurd y.1 (by decide))] at h
    exact br_t rfl h
  · rw [e2] at h ⊢
    rw [nI_clamp (by omega)] at h ⊢
    obtain ⟨⟨κ, hκ, eκ⟩, hL⟩ := hR.2.2.2.2.2.2.2.2 a ha
    have hp : (0 : Int32) ≤ nI a := nI_pos' (by omega)
    refine br_f (fun y => absurd (y ▸ hp) (by decide)) ⟨vp_in_nI (by omega) (by omega), ?_⟩
    rw [hL.2.1]
    refine ⟨by rw [eκ]; exact vp_in_nI (by omega) (by omega), vp31 0 (by decide), br_c (fun q => ⟨vp_in_nI (by omega) (by omega), ?_⟩) (fun q => ?_)⟩
    · rw [if_pos ⟨hp, q⟩] at h
      rw [hL.2.2.1 q]; exact h
    · rw [if_neg (fun y => q y.2)] at h; exact h
/-- both systems mean the same line by a word -/
theorem lof_m1 {d : HI} {n : Nat} (hI : WI d n) : lof (d 4) (-1) n = -1 := by
  rcases lof_cases (d 4) (-1) n with ⟨e, _⟩ | ⟨a, ha, e, _⟩
  · exact e
  · obtain ⟨i, i1, i9, ei⟩ := hI.1 a ha
    rw [ei] at e
    have hp : (0 : Int32) ≤ nI i := nI_pos' (by omega)
    exact absurd (e ▸ hp) (by decide)
theorem SY_SW {d : HI} {n : Nat} (hI : WI d n) (w j : Nat) : SY d n (NU d w j) = if 0 ≤ SW d n w j then nI (sc d (SW d n w j).toNatClampNeg) else -1 := by
  rcases NU_cases d w j with e | ⟨v, hv, e, _⟩
  · have e1 : SW d n w j = -1 := by unfold SW; rw [e, if_neg (fun y => absurd y.1 (by decide))]
    rw [e1, if_neg (by decide)]
    unfold SY
    rw [e, lof_m1 hI, if_neg (fun y => absurd y.1 (by decide))]
  · have hp : (0 : Int32) ≤ NU d w j := by rw [e]; exact nI_pos' (by omega)
    unfold SY
    by_cases q : 0 ≤ lof (d 4) (NU d w j) n ∧ d 5 (lof (d 4) (NU d w j) n).toNatClampNeg = 0
    · have e1 : SW d n w j = lof (d 4) (NU d w j) n := by unfold SW; rw [if_pos (And.intro hp q)]
      rw [e1, if_pos q, if_pos q.1]
    · have e1 : SW d n w j = -1 := by unfold SW; rw [if_neg (fun y => q y.2)]
      rw [e1, if_neg q, if_neg (by decide)]
theorem pX_lastId {d hx : HI} {n w : Nat} {hl : HL} {Φ : Int32 → HI → HL → Prop} (hn : n ≤ 20) (hR : RX d hx n w) (h : Φ (if n = 0 then 0 else d 4 (n - 1)) hx hl) : wpB_lastId hx hl Φ := by
  unfold wpB_lastId wbB_lastId_0
  rw [hR.1]
  refine pk_le n 0 (fun q => ?_) (fun q => ?_)
  · rw [if_pos (by omega)] at h; exact h
  · have e1 : nI n - 1 = nI (n - 1) := by
      have : n = (n - 1) + 1 := by omega
      rw [this, nI_pred]; congr 1
    rw [if_neg (by omega)] at h
    rw [e1, nI_clamp (by omega), (hR.2.2.2.2.2.2.2.2 (n - 1) (by omega)).2.1]
    exact ⟨vp_in_nI (by omega) (by omega), h⟩
theorem pX_isArray (c : Nat) (hc : c ≤ 7) (hx : HI) (hl : HL) (Φ : Int32 → HI → HL → Prop) : wpC_isArray (nI c) hx hl Φ = Φ (bI (decide (¬ c ≤ 4))) hx hl := by
  have e : (nI c ≤ 4) = (c ≤ 4) := propext (nI_leI (b := 4) (by omega) (by omega))
  unfold wpC_isArray wbC_isArray_0
  by_cases q : c ≤ 4
  · simp [e, q, bI, i01]
  · simp [e, q, bI, i01]
theorem pX_bitsOf (c : Nat) (hc : c ≤ 7) (hx : HI) (hl : HL) (Φ : Int32 → HI → HL → Prop) : wpC_bitsOf (nI c) hx hl Φ = Φ (nI (bts c)) hx hl := by
  unfold wpC_bitsOf wbC_bitsOf_0
  rw [pX_isArray c hc]
  by_cases q : c ≤ 4
  · simp [q, bI, bts]
  · have e1 : nI c - 4 = nI (c - 4) := pk_sub (b := 4) (by omega)
    have e2 : (2 : Int32) * nI (c - 4) = nI (2 * (c - 4)) := pk_mul 2 _
    simp [q, bI, bts, e1, e2]
