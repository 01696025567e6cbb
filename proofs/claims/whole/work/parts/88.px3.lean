/-! X: one word of a line -/
theorem NY_NW {d : HI} {n : Nat} (hI : WI d n) (hn : n ≤ 20) (w j : Nat) : NW d n w j = (if 0 ≤ NY d n (NX d w j) ∧ ¬ (TN d w j = true ∧ ¬ d 15 (d 6 (NY d n (NX d w j)).toNatClampNeg).toNatClampNeg = 0) then NY d n (NX d w j) else -1) := by
  have hc : 0 ≤ NX d w j ∨ NX d w j = -1 := by
    unfold NX
    split
    · split
      · rcases dg_cases (d 1) ((d 2 j).toNatClampNeg + 1) (d 3 j).toNatClampNeg with e | ⟨v, hv, e⟩
        · exact Or.inr e
        · left; rw [e]; exact nI_pos' (by omega)
      · rcases dg_cases (d 1) (d 2 j).toNatClampNeg (d 3 j).toNatClampNeg with e | ⟨v, hv, e⟩
        · exact Or.inr e
        · left; rw [e]; exact nI_pos' (by omega)
    · exact Or.inr rfl
  rcases hc with hp | e
  · by_cases q : 0 ≤ lof (d 4) (NX d w j) n ∧ ¬ d 5 (lof (d 4) (NX d w j) n).toNatClampNeg = 0 ∧ ¬ 27 ≤ d 5 (lof (d 4) (NX d w j) n).toNatClampNeg
    · have e1 : NY d n (NX d w j) = lof (d 4) (NX d w j) n := by unfold NY; rw [if_pos q]
      rw [e1]
      unfold NW
      by_cases t : ¬ (TN d w j = true ∧ ¬ d 15 (d 6 (lof (d 4) (NX d w j) n).toNatClampNeg).toNatClampNeg = 0)
      · rw [if_pos ⟨hp, q.1, q.2.1, q.2.2, t⟩, if_pos ⟨q.1, t⟩]
      · rw [if_neg (fun y => t y.2.2.2.2), if_neg (fun y => t y.2)]
    · have e1 : NY d n (NX d w j) = -1 := by unfold NY; rw [if_neg q]
      rw [e1, if_neg (fun y => absurd y.1 (by decide))]
      unfold NW
      rw [if_neg (fun y => q ⟨y.2.1, y.2.2.1, y.2.2.2.1⟩)]
  · have e1 : NY d n (NX d w j) = -1 := by
      unfold NY; rw [e, lof_m1 hI, if_neg (fun y => absurd y.1 (by decide))]
    rw [e1, if_neg (fun y => absurd y.1 (by decide))]
    unfold NW
    rw [e, if_neg (fun y => absurd y.1 (by decide))]
theorem NX_NS (d : HI) (w j : Nat) : NX d w j = NS d w j (if TN d w j = true then 1 else 0) := by
  unfold NX NS
  by_cases c : j < w
  · rw [if_pos c, if_pos c]
    by_cases t : TN d w j = true
    · rw [if_pos t, if_pos t]
    · rw [if_neg t, if_neg t]; rfl
  · rw [if_neg c, if_neg c]
theorem NY_cases {d : HI} {n : Nat} (hn : n ≤ 20) (x : Int32) : NY d n x = -1 ∨ ∃ k, k < n ∧ NY d n x = nI k ∧ nod (d 5 k) := by
  unfold NY
  split
  · rename_i h
    rcases lof_cases (d 4) x n with ⟨a, _⟩ | ⟨k, hk, _, e⟩
    · rw [a] at h; exact absurd h.1 (by decide)
    · rw [e] at h ⊢
      rw [nI_clamp (by omega)] at h
      exact Or.inr ⟨k, hk, rfl, h.2.1, h.2.2⟩
  · exact Or.inl rfl
/-- a word that X has taken as a node -/
def ndX (hx : HI) (cnt : Nat) (x t : Int32) (c : Nat) : HI := u2 (u2 (u2 (u2 hx 11 cnt x) 12 cnt t) 10 7 (nI (cnt + 1))) 10 8 (nI c)
theorem RX_nd {d hx : HI} {n w : Nat} (h : RX d hx n w) (cnt : Nat) (x t : Int32) (c : Nat) : RX d (ndX hx cnt x t c) n w :=
  RX_u (RX_u (RX_u (RX_u h 11 _ _ (by omega) (by omega)) 12 _ _ (by omega) (by omega)) 10 _ _ (by omega) (by omega)) 10 _ _ (by omega) (by omega)
theorem pX_nodeFits {d hx : HI} {n w : Nat} {hl : HL} {Φ : Int32 → HI → HL → Prop} (hT : TXw d w) (hW : WL d n) (hI : WI d n) (hR : RX d hx n w) (ℓ : Int32) (j : Nat) (hj : j < 99) (cnt : Nat) (hcnt : hx 10 7 = nI cnt) (hc3 : cnt < 3) (P : Bool)
    (hP : ∀ k s', NW d n w j = nI k → k < n → s' < n → d 5 s' = 0 → nod (d 5 k) → ns d (NW d n w j) = sc d s' → hx (24 + k) 2 = nI (ns d (NW d n w j)) → ∀ Ψ, Ψ (bI P) hx hl → wpD_suits ℓ k (bI (TN d w j)) hx hl Ψ)
    (h0 : (decide (0 ≤ NW d n w j) && P) = false → Φ 0 hx hl) (h1 : (decide (0 ≤ NW d n w j) && P) = true → Φ 1 (ndX hx cnt (NW d n w j) (bI (TN d w j)) (ns d (NW d n w j))) hl) : wpD_nodeFits ℓ (nI j) hx hl Φ := by
  have hn := hW.1
  unfold wpD_nodeFits wbD_nodeFits_0
  refine pX_hasMinus hT hR j (by omega) ?_
  have key : wbD_nodeFits_27 ℓ (bI (TN d w j)) (nI j) (nI (if TN d w j = true then 1 else 0)) hx hl Φ := by
    unfold wbD_nodeFits_27
    refine pX_number hT hR j _ (by omega) (by split <;> omega) ?_
    rw [← NX_NS]
    refine pX_nodeWith hn hI hR _ ?_
    have eN := NY_NW hI hn w j
    rcases NY_cases hn (NX d w j) with e | ⟨k, hk, e, hno⟩
    · rw [e] at eN ⊢
      rw [if_neg (fun y => absurd y.1 (by decide))] at eN
      refine br_t rfl ⟨i01_0, h0 ?_⟩
      rw [eN]; rfl
    · obtain ⟨s, hs, es, e5⟩ := hW.2.1 k hk hno
      have hr := sc_r hW hs e5
      have hcs : (nI s).toNatClampNeg = s := nI_clamp (by omega)
      have hp : (0 : Int32) ≤ nI k := nI_pos' (by omega)
      rw [e] at eN ⊢
      have hck : (nI k).toNatClampNeg = k := nI_clamp (by omega)
      rw [hck] at eN ⊢
      rw [hcnt]
      have hL := (hR.2.2.2.2.2.2.2.2 k hk).2
      have hx2 : hx (24 + k) 2 = nI (sc d s) := by rw [(hL.2.2.2.1 hno).1, es, hcs]
      rw [es, hcs] at eN
      refine br_f (fun y => absurd (y ▸ hp) (by decide)) (br_t (nI_lt (b := 3) hc3 (by omega)) ⟨vp_in_nI (by omega) (by omega), ?_⟩)
      have go : NW d n w j = nI k → wbD_nodeFits_84 ℓ (bI (TN d w j)) (nI k) k hx hl Φ := fun en => by
        have ens : ns d (NW d n w j) = sc d s := by rw [en]; unfold ns; rw [hck, es, hcs]
        unfold wbD_nodeFits_84
        refine hP k s en hk hs e5 hno ens (by rw [ens]; exact hx2) _ ?_
        rw [decide_eq_true (show 0 ≤ NW d n w j by rw [en]; exact hp), Bool.true_and] at h0 h1
        refine br_c (fun q => ⟨i01_0, h0 ?_⟩) (fun q => ?_)
        · rw [bI_0] at q; exact q
        · rw [bI_ne] at q
          have hcc : (nI cnt).toNatClampNeg = cnt := nI_clamp (by omega)
          have ne1 : (24 + k : Nat) ≠ 10 := by omega
          have ne2 : (24 + k : Nat) ≠ 11 := by omega
          have ne3 : (24 + k : Nat) ≠ 12 := by omega
          simp (decide := true) only [u2_s, u2_c, u2_j, hcnt, hcc, vn_bI, nI_1]
          rw [u2_c _ _ _ _ ne3, u2_c _ _ _ _ ne2, hx2]
          have := h1 q
          rw [en] at this
          rw [← ens, en]
          exact ⟨vp_in_nI (by omega) (by omega), vp_in_nI (by omega) (by omega), i01_1, this⟩
      refine br_c (fun q => ?_) (fun q => ?_)
      · rw [bI_0] at q
        refine go ?_
        rw [eN, if_pos ⟨hp, fun y => absurd (q ▸ y.1) (by decide)⟩]
      · rw [bI_ne] at q
        rw [hx2, pX_isArray _ (by omega)]
        have e15 := sc_b hW hs e5
        refine br_c (fun z => go ?_) (fun z => ⟨i01_0, h0 ?_⟩)
        · rw [bI_0, decide_eq_false_iff_not, Decidable.not_not] at z
          rw [eN, if_pos ⟨hp, fun y => y.2 (by rw [e15]; exact z)⟩]
        · rw [bI_ne, decide_eq_true_eq] at z
          rw [eN, if_neg (fun y => y.2 ⟨q, by rw [e15]; exact z⟩)]; rfl
  cases t : TN d w j
  · rw [t] at key; exact br_t rfl key
  · rw [t] at key; exact br_f (by decide) key
/-- a word that X has taken as a sort -/
noncomputable def scX (d : HI) (n w j : Nat) : Int32 := if 0 ≤ SW d n w j then nI (sc d (SW d n w j).toNatClampNeg) else -1
theorem pX_sortFits {d hx : HI} {n w : Nat} {hl : HL} {Φ : Int32 → HI → HL → Prop} (hT : TXw d w) (hW : WL d n) (hI : WI d n) (hR : RX d hx n w) (ℓ : Int32) (j : Nat) (hj : j < 99) (P : Prop) (dp : Decidable P)
    (hℓ : (ℓ = 66 ∧ (0 ≤ SW d n w j → (P ↔ sc d (SW d n w j).toNatClampNeg ≤ 4))) ∨ (ℓ = 73 ∧ (0 ≤ SW d n w j → (P ↔ sc d (SW d n w j).toNatClampNeg ≤ 4 ∧ tot d (nI 1) n + bts (sc d (SW d n w j).toNatClampNeg) ≤ 2))) ∨ (ℓ = 79 ∧ (0 ≤ SW d n w j → (P ↔ sc d (SW d n w j).toNatClampNeg = 1))) ∨ (ℓ = 83 ∧ (0 ≤ SW d n w j → (P ↔ True))) ∨ (ℓ = 84 ∧ (0 ≤ SW d n w j → (P ↔ tot d (nI 2) n + bts (sc d (SW d n w j).toNatClampNeg) ≤ 6))) ∨ (ℓ = 89 ∧ (0 ≤ SW d n w j → (P ↔ ¬ sc d (SW d n w j).toNatClampNeg ≤ 4))))
    (h : Φ (bI (decide (0 ≤ SW d n w j) && decide P)) (u2 hx 10 4 (scX d n w j)) hl) : wpD_sortFits ℓ (nI j) hx hl Φ := by
  have hn := hW.1
  unfold wpD_sortFits wbD_sortFits_0 wbD_sortFits_161
  refine pX_number hT hR j 0 (by omega) (by omega) ?_
  rw [NS_0]
  refine pX_sortOf hn hI hR _ ?_
  have eS : SY d n (NU d w j) = scX d n w j := SY_SW hI w j
  rw [eS, u2_s]
  have hR2 : RX d (u2 hx 10 4 (scX d n w j)) n w := RX_u hR 10 _ _ (by omega) (by omega)
  by_cases q : 0 ≤ SW d n w j
  · obtain ⟨s, hs, es, e5, ec, ev⟩ := swf hW w j q
    have hr := sc_r hW hs e5
    have hb := bts_7 hr.2.1
    have esx : scX d n w j = nI (sc d s) := by unfold scX; rw [if_pos q, ec]
    have t1 := tot_le hW (nI 1) (nod_nI (by omega) (by omega)) n (Nat.le_refl _)
    have t2 := tot_le hW (nI 2) (nod_nI (by omega) (by omega)) n (Nat.le_refl _)
    rw [ec] at hℓ
    rw [decide_eq_true q, Bool.true_and] at h
    have hpos : (0 : Int32) ≤ nI (sc d s) := nI_pos' (by omega)
    have y1 : P → Φ 1 (u2 hx 10 4 (scX d n w j)) hl := fun p => by rw [decide_eq_true p] at h; exact h
    have y0 : ¬ P → Φ 0 (u2 hx 10 4 (scX d n w j)) hl := fun p => by rw [decide_eq_false p] at h; exact h
    have g3 := hR2.2.2.2.2.2.1
    have g4 := hR2.2.2.2.2.2.2.1
    refine br_f (by rw [esx]; exact fun y => absurd (y ▸ hpos) (by decide)) ?_
    rcases hℓ with ⟨e, iff⟩ | ⟨e, iff⟩ | ⟨e, iff⟩ | ⟨e, iff⟩ | ⟨e, iff⟩ | ⟨e, iff⟩
    · have iff' := iff q
      subst e
      simp (decide := true) only [false_implies, true_implies, and_true, true_and, not_true, not_false_eq_true]
      rw [esx, pX_isArray _ (by omega), ← esx]
      refine br_c (fun z => ⟨i01_1, y1 ?_⟩) (fun z => ⟨i01_0, y0 ?_⟩)
      · rw [bI_0, decide_eq_false_iff_not, Decidable.not_not] at z; exact iff'.mpr z
      · rw [bI_ne, decide_eq_true_eq] at z; exact fun p => z (iff'.mp p)
    · have iff' := iff q
      subst e
      simp (decide := true) only [false_implies, true_implies, and_true, true_and, not_true, not_false_eq_true]
      rw [esx, pX_isArray _ (by omega), ← esx]
      refine br_c (fun z => ?_) (fun z => ⟨i01_0, y0 ?_⟩)
      · rw [bI_0, decide_eq_false_iff_not, Decidable.not_not] at z
        rw [u2_s, esx, pX_bitsOf _ (by omega), ← esx, g3, nI_add]
        refine pk_lt 2 (tot d (nI 1) n + bts (sc d s)) (fun x => ⟨i01_0, y0 (fun p => ?_)⟩) (fun x => ⟨i01_1, y1 (iff'.mpr ⟨z, x⟩)⟩)
        have := (iff'.mp p).2; omega
      · rw [bI_ne, decide_eq_true_eq] at z; exact fun p => z (iff'.mp p).1
    · have iff' := iff q
      subst e
      simp (decide := true) only [false_implies, true_implies, and_true, true_and, not_true, not_false_eq_true]
      refine pk_eq (sc d s) 1 (fun x => ⟨i01_1, y1 (iff'.mpr x)⟩) (fun x => ⟨i01_0, y0 (fun p => x (iff'.mp p))⟩) esx rfl (by omega) (by omega)
    · have iff' := iff q
      subst e
      simp (decide := true) only [false_implies, true_implies, and_true, true_and, not_true, not_false_eq_true]
      exact ⟨i01_1, y1 (iff'.mpr trivial)⟩
    · have iff' := iff q
      subst e
      simp (decide := true) only [false_implies, true_implies, and_true, true_and, not_true, not_false_eq_true]
      rw [esx, pX_bitsOf _ (by omega), ← esx, g4, nI_add]
      refine pk_lt 6 (tot d (nI 2) n + bts (sc d s)) (fun x => ⟨i01_0, y0 (fun p => ?_)⟩) (fun x => ⟨i01_1, y1 (iff'.mpr x)⟩)
      have := iff'.mp p; omega
    · have iff' := iff q
      subst e
      simp (decide := true) only [false_implies, true_implies, and_true, true_and, not_true, not_false_eq_true]
      rw [esx, pX_isArray _ (by omega), ← esx]
      refine ⟨bI_01 _, ?_⟩
      have : decide P = decide (¬ sc d s ≤ 4) := by rw [decide_eq_decide]; exact iff'
      rw [this] at h; exact h
  · have esx : scX d n w j = -1 := by unfold scX; rw [if_neg q]
    rw [decide_eq_false q, Bool.false_and] at h
    exact br_t esx ⟨i01_0, h⟩
