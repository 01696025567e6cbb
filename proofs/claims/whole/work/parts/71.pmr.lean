/-! M reads words: pure pictures of what a word is, over the state d that stands when the words have been split -/
theorem u2_ap {α : Type} (h : Nat → Nat → α) (c j : Nat) (v : α) (a b : Nat) : u2 h c j v a b = if a = c ∧ b = j then v else h a b := rfl
def RC (d hm : HI) (n w : Nat) : Prop := hm 0 6 = nI n ∧ hm 0 2 = nI w ∧ hm 1 = d 1 ∧ hm 2 = d 2 ∧ hm 3 = d 3 ∧ ∀ c, 4 ≤ c → c ≤ 16 → ∀ k, k < n → hm c k = d c k
theorem RC_s {d hm : HI} {n w : Nat} (h : RC d hm n w) (s : Nat) (x : Int32) (h2 : s ≠ 2) (h6 : s ≠ 6) : RC d (u2 hm 0 s x) n w := by
  obtain ⟨a, b, c, e, f, g⟩ := h
  refine ⟨?_, ?_, ?_, ?_, ?_, fun c hc hc2 k hk => ?_⟩
  · rw [u2_j _ _ _ _ (Ne.symm h6)]; exact a
  · rw [u2_j _ _ _ _ (Ne.symm h2)]; exact b
  · rw [u2_cf _ _ _ (by decide)]; exact c
  · rw [u2_cf _ _ _ (by decide)]; exact e
  · rw [u2_cf _ _ _ (by decide)]; exact f
  · rw [u2_c _ _ _ _ (by omega)]; exact g c hc hc2 k hk
theorem RC_l {d hm : HI} {n w : Nat} (h : RC d hm n w) (c k : Nat) (x : Int32) (hc : 4 ≤ c) (hk : n ≤ k) : RC d (u2 hm c k x) n w := by
  obtain ⟨a, b, p, e, f, g⟩ := h
  refine ⟨?_, ?_, ?_, ?_, ?_, fun c' hc1 hc2 k' hk' => ?_⟩
  · rw [u2_c _ _ _ _ (by omega)]; exact a
  · rw [u2_c _ _ _ _ (by omega)]; exact b
  · rw [u2_cf _ _ _ (by omega)]; exact p
  · rw [u2_cf _ _ _ (by omega)]; exact e
  · rw [u2_cf _ _ _ (by omega)]; exact f
  · rw [u2_j _ _ _ _ (by omega)]; exact g c' hc1 hc2 k' hk'
theorem RC_v {d hm : HI} {n w : Nat} (h : RC d hm n w) (c k : Nat) (x : Int32) (hc : 17 ≤ c) : RC d (u2 hm c k x) n w := by
  obtain ⟨a, b, p, e, f, g⟩ := h
  refine ⟨?_, ?_, ?_, ?_, ?_, fun c' hc1 hc2 k' hk' => ?_⟩
  · rw [u2_c _ _ _ _ (by omega)]; exact a
  · rw [u2_c _ _ _ _ (by omega)]; exact b
  · rw [u2_cf _ _ _ (by omega)]; exact p
  · rw [u2_cf _ _ _ (by omega)]; exact e
  · rw [u2_cf _ _ _ (by omega)]; exact f
  · rw [u2_c _ _ _ _ (by omega)]; exact g c' hc1 hc2 k' hk'
/-- the words stand within what is typed -/
def TXw (d : HI) (w : Nat) : Prop := w ≤ 20 ∧ ∀ j, j < w → ∃ f t : Nat, d 2 j = nI f ∧ d 3 j = nI t ∧ f < t ∧ t ≤ 40
def nod (x : Int32) : Prop := ¬ x = 0 ∧ ¬ 27 ≤ x
/-- sorts of the first n lines -/
def WL (d : HI) (n : Nat) : Prop := n ≤ 20 ∧ (∀ k, k < n → nod (d 5 k) → ∃ s, s < n ∧ d 6 k = nI s ∧ d 5 s = 0) ∧ (∀ k, k < n → d 5 k = 0 → ∃ w, 1 ≤ w ∧ w ≤ 3 ∧ d 16 k = nI w ∧ i01 (d 15 k))
noncomputable def NU (d : HI) (w j : Nat) : Int32 := if j < w then dg (d 1) (d 2 j).toNatClampNeg (d 3 j).toNatClampNeg else -1
noncomputable def SW (d : HI) (n w j : Nat) : Int32 := if 0 ≤ NU d w j ∧ 0 ≤ lof (d 4) (NU d w j) n ∧ d 5 (lof (d 4) (NU d w j) n).toNatClampNeg = 0 then lof (d 4) (NU d w j) n else -1
noncomputable def TN (d : HI) (w j : Nat) : Bool := decide (j < w ∧ d 1 (d 2 j).toNatClampNeg = 45)
noncomputable def NX (d : HI) (w j : Nat) : Int32 := if j < w then (if TN d w j = true then dg (d 1) ((d 2 j).toNatClampNeg + 1) (d 3 j).toNatClampNeg else dg (d 1) (d 2 j).toNatClampNeg (d 3 j).toNatClampNeg) else -1
def ndk (d : HI) (x : Int32) (t : Bool) : Prop := 0 ≤ x ∧ ¬ d 5 x.toNatClampNeg = 0 ∧ ¬ 27 ≤ d 5 x.toNatClampNeg ∧ ¬ (t = true ∧ ¬ d 15 (d 6 x.toNatClampNeg).toNatClampNeg = 0)
noncomputable def NW (d : HI) (n w j : Nat) : Int32 := if 0 ≤ NX d w j ∧ (0 ≤ lof (d 4) (NX d w j) n ∧ ¬ d 5 (lof (d 4) (NX d w j) n).toNatClampNeg = 0 ∧ ¬ 27 ≤ d 5 (lof (d 4) (NX d w j) n).toNatClampNeg ∧ ¬ (TN d w j = true ∧ ¬ d 15 (d 6 (lof (d 4) (NX d w j) n).toNatClampNeg).toNatClampNeg = 0)) then lof (d 4) (NX d w j) n else -1
theorem lof_congr {f g : Nat → Int32} (x : Int32) {n : Nat} (h : ∀ k, k < n → f k = g k) : lof f x n = lof g x n := by
  induction n with
  | zero => rfl
  | succ n ih => simp only [lof, h n (by omega), ih (fun k hk => h k (by omega))]
theorem SW_cases (d : HI) (n w j : Nat) (hn : n ≤ 20) : SW d n w j = -1 ∨ ∃ k, k < n ∧ SW d n w j = nI k ∧ d 5 k = 0 := by
  unfold SW
  split
  · rename_i h
    rcases lof_cases (d 4) (NU d w j) n with ⟨a, _⟩ | ⟨k, hk, _, e⟩
    · rw [a] at h; exact absurd h.2.1 (by decide)
    · rw [e] at h ⊢
      refine Or.inr ⟨k, hk, rfl, ?_⟩
      have := h.2.2
      rwa [nI_clamp (by omega)] at this
  · exact Or.inl rfl
theorem NW_cases (d : HI) (n w j : Nat) (hn : n ≤ 20) : NW d n w j = -1 ∨ ∃ k, k < n ∧ NW d n w j = nI k ∧ nod (d 5 k) ∧ (TN d w j = true → d 15 (d 6 k).toNatClampNeg = 0) := by
  unfold NW
  split
  · rename_i h
    rcases lof_cases (d 4) (NX d w j) n with ⟨a, _⟩ | ⟨k, hk, _, e⟩
    · rw [a] at h; exact absurd h.2.1 (by decide)
    · rw [e] at h ⊢
      rw [nI_clamp (by omega)] at h
      refine Or.inr ⟨k, hk, rfl, ⟨h.2.2.1, h.2.2.2.1⟩, fun ht => ?_⟩
      have := h.2.2.2.2
      by_cases q : d 15 (d 6 k).toNatClampNeg = 0
      · exact q
      · exact absurd ⟨ht, q⟩ this
  · exact Or.inl rfl
theorem pM_number {d hm : HI} {n w : Nat} {hl : HL} {Φ : Int32 → HI → HL → Prop} (hT : TXw d w) (hR : RC d hm n w) (j : Nat) (hj : j < 100) (h : Φ (NU d w j) hm hl) : wpM_number (nI j) hm hl Φ := by
  obtain ⟨h6, h2, e1, e2, e3, hL⟩ := hR
  obtain ⟨hw, hT⟩ := hT
  unfold wpM_number wbM_number_0
  rw [h2]
  refine pk_le w j (fun c => ?_) (fun c => ?_)
  · simpa [NU, Nat.not_lt.mpr c] using h
  · obtain ⟨f, t, ef, et, ft, t40⟩ := hT j c
    refine ⟨vp_in_nI (by omega) (by omega), vp_in_nI (by omega) (by omega), ?_⟩
    rw [nI_clamp (by omega), e2, e3, ef, et]
    refine pM_digits _ _ _ f t (by omega) t40 ?_
    have : NU d w j = dg (d 1) f t := by simp only [NU, if_pos c, ef, et]; rw [nI_clamp (by omega), nI_clamp (by omega)]
    rw [e1, ← this]; exact h
theorem pM_sortWord {d hm : HI} {n w : Nat} {hl : HL} {Φ : Int32 → HI → HL → Prop} (hT : TXw d w) (hn : n ≤ 20) (hR : RC d hm n w) (j : Nat) (hj : j < 100) (h5 : hm 0 5 = nI j) (h : Φ (SW d n w j) hm hl) : wpM_sortWord hm hl Φ := by
  unfold wpM_sortWord wbM_sortWord_0
  rw [h5]
  refine pM_number hT hR j hj ?_
  unfold wbM_sortWord_22 wbM_sortWord_40
  refine br_c (fun c => ?_) (fun c => ?_)
  · refine pM_lineOf _ _ _ _ n hR.1 hn ?_
    rw [lof_congr (g := d 4) _ (fun k hk => hR.2.2.2.2.2 4 (by omega) (by omega) k hk)]
    rcases lof_cases (d 4) (NU d w j) n with ⟨a, _⟩ | ⟨k, hk, _, e⟩
    · have : SW d n w j = -1 := by simp [SW, a]
      rw [a]; rw [this] at h
      exact br_t (by decide) h
    · rw [e]
      have ek := hR.2.2.2.2.2 5 (by omega) (by omega) k hk
      refine br_f (nI_pos (by omega)) ⟨vp_in_nI (by omega) (by omega), ?_⟩
      rw [nI_clamp (by omega), ek]
      refine br_c (fun q => ?_) (fun q => ?_)
      · have : SW d n w j = nI k := by
          unfold SW
          rw [e, nI_clamp (by omega), if_pos ⟨c, nI_pos' (by omega), q⟩]
        rw [this] at h; exact h
      · have : SW d n w j = -1 := by
          unfold SW
          rw [e, nI_clamp (by omega), if_neg (fun z => q z.2.2)]
        rw [this] at h; exact h
  · have : SW d n w j = -1 := by simp [SW, c]
    rw [this] at h
    exact br_t (by decide) h
theorem pM_isNode {hm : HI} {hl : HL} {Φ : Int32 → HI → HL → Prop} (x : Int32) (hx : x < 0 ∨ ∃ k, k < 21 ∧ x = nI k) (h : Φ (bI (decide (0 ≤ x ∧ ¬ hm 5 x.toNatClampNeg = 0 ∧ ¬ 27 ≤ hm 5 x.toNatClampNeg))) hm hl) : wpM_isNode x hm hl Φ := by
  unfold wpM_isNode wbM_isNode_0 wbM_isNode_28
  refine br_c (fun c => ?_) (fun c => ?_)
  · have : ¬ 0 ≤ x := by rw [i32_nle]; exact c
    exact ⟨i01_0, by simpa [this, bI] using h⟩
  · have c' : 0 ≤ x := by rw [i32_nlt] at c; exact c
    obtain ⟨k, hk, e⟩ := hx.resolve_left c
    have hv : vp_in x 21 := by rw [e]; exact vp_in_nI hk (by omega)
    refine ⟨hv, br_c (fun q => ⟨i01_0, by simpa [q, bI] using h⟩) (fun q => ⟨hv, br_c (fun r => ⟨i01_0, by simpa [r, bI] using h⟩) (fun r => ⟨i01_1, by simpa [c', q, r, bI] using h⟩)⟩)⟩
theorem pM_nodeWord {d hm : HI} {n w : Nat} {hl : HL} {Φ : Int32 → HI → HL → Prop} (hT : TXw d w) (hW : WL d n) (hR : RC d hm n w) (j : Nat) (hj : j < 100) (h5 : hm 0 5 = nI j) (h : Φ (NW d n w j) (u2 hm 0 20 (bI (TN d w j))) hl) : wpM_nodeWord hm hl Φ := by
  have hR' := hR
  obtain ⟨h6, h2, e1, e2, e3, hL⟩ := hR
  have hn : n ≤ 20 := hW.1
  have hw : w ≤ 20 := hT.1
  have key : wbM_nodeWord_96 (NX d w j) (u2 hm 0 20 (bI (TN d w j))) hl Φ := by
    have hRu : RC d (u2 hm 0 20 (bI (TN d w j))) n w := RC_s hR' 20 _ (by decide) (by decide)
    unfold wbM_nodeWord_96
    have k110 : ∀ x, x = NW d n w j ∨ True → (x < 0 ∨ ∃ k, k < n ∧ x = nI k) → (NW d n w j = if (0 ≤ x ∧ ¬ d 5 x.toNatClampNeg = 0 ∧ ¬ 27 ≤ d 5 x.toNatClampNeg ∧ ¬ (TN d w j = true ∧ ¬ d 15 (d 6 x.toNatClampNeg).toNatClampNeg = 0)) then x else -1) → wbM_nodeWord_110 x (u2 hm 0 20 (bI (TN d w j))) hl Φ := by
      intro x _ hx hN
      unfold wbM_nodeWord_110 wbM_nodeWord_144 wbM_nodeWord_140 wbM_nodeWord_145
      refine pM_isNode x (hx.imp id (fun ⟨k, hk, e⟩ => ⟨k, by omega, e⟩)) ?_
      rcases hx with hx | ⟨k, hk, e⟩
      · have hx' : ¬ 0 ≤ x := by rw [i32_nle]; exact hx
        rw [if_neg (fun z => hx' z.1)] at hN
        rw [hN] at h
        refine br_t (by simp [hx', bI]) (br_t rfl h)
      · subst e
        rw [nI_clamp (by omega)] at hN ⊢
        rw [hRu.2.2.2.2.2 5 (by omega) (by omega) k hk, hRu.2.2.2.2.2 6 (by omega) (by omega) k hk]
        have hp : (0 : Int32) ≤ nI k := nI_pos' (by omega)
        by_cases q : ¬ d 5 k = 0 ∧ ¬ 27 ≤ d 5 k
        · obtain ⟨s, hs, es, _⟩ := hW.2.1 k hk q
          refine br_f (by simp [hp, q, bI]) ?_
          rw [u2_s, es, nI_clamp (by omega), hRu.2.2.2.2.2 15 (by omega) (by omega) s hs]
          rw [es, nI_clamp (by omega)] at hN
          by_cases t : TN d w j = true
          · refine br_f (by simp [t, bI]) ⟨vp_in_nI (by omega) (by omega), vp_in_nI (by omega) (by omega), ?_⟩
            refine br_c (fun r => br_f (by decide) ?_) (fun r => br_t rfl ?_)
            · rw [if_pos ⟨hp, q.1, q.2, fun z => z.2 r⟩] at hN
              rw [hN] at h; exact h
            · rw [if_neg (fun z => z.2.2.2 ⟨t, r⟩)] at hN
              rw [hN] at h; exact h
          · refine br_t (by simp [t, bI]) (br_f (by decide) ?_)
            rw [if_pos ⟨hp, q.1, q.2, fun z => t z.1⟩] at hN
            rw [hN] at h; exact h
        · refine br_t ?_ (br_t rfl ?_)
          · rw [bI_0, decide_eq_false_iff_not]; exact fun z => q ⟨z.2.1, z.2.2⟩
          · rw [if_neg (fun z => q ⟨z.2.1, z.2.2.1⟩)] at hN
            rw [hN] at h; exact h
    refine br_c (fun c => ?_) (fun c => ?_)
    · refine pM_lineOf _ _ _ _ n hRu.1 hn ?_
      rw [lof_congr (g := d 4) _ (fun k hk => hRu.2.2.2.2.2 4 (by omega) (by omega) k hk)]
      refine k110 _ (Or.inr trivial) ?_ ?_
      · rcases lof_cases (d 4) (NX d w j) n with ⟨a, _⟩ | ⟨k, hk, _, e⟩
        · left; rw [a]; decide
        · exact Or.inr ⟨k, hk, e⟩
      · unfold NW; simp only [c, true_and]
    · refine k110 _ (Or.inr trivial) (Or.inl (by decide)) ?_
      unfold NW
      rw [if_neg (fun z => c z.1), if_neg (fun z => absurd z.1 (by decide))]
  unfold wpM_nodeWord wbM_nodeWord_0 wbM_nodeWord_35
  have k36 : wbM_nodeWord_36 (bI (TN d w j)) hm hl Φ := by
    unfold wbM_nodeWord_36
    have f5 : (u2 hm 0 20 (bI (TN d w j))) 0 5 = nI j := by rw [u2_j _ _ _ _ (by decide)]; exact h5
    have f2 : (u2 hm 0 20 (bI (TN d w j))) 0 2 = nI w := by rw [u2_j _ _ _ _ (by decide)]; exact h2
    rw [f5, f2, u2_s]
    refine ⟨bI_01 _, pk_lt j w (fun c => ?_) (fun c => ?_)⟩
    · obtain ⟨f, t, ef, et, ft, t40⟩ := hT.2 j c
      by_cases t' : TN d w j = true
      · refine br_f (by simp [t', bI]) ⟨vp_in_nI (by omega) (by omega), vp_in_nI (by omega) (by omega), ?_⟩
        rw [nI_clamp (by omega), u2_c _ _ _ _ (by decide), u2_c _ _ _ _ (by decide), e2, e3, ef, et, nI_1]
        refine pM_digits _ _ _ (f + 1) t (by omega) t40 ?_
        have : NX d w j = dg (d 1) (f + 1) t := by simp only [NX, if_pos c, t', if_true, ef, et]; rw [nI_clamp (by omega), nI_clamp (by omega)]
        rw [u2_cf _ _ _ (by decide), e1, ← this]; exact key
      · refine br_t (by simp [t', bI]) ?_
        refine pM_number hT (RC_s hR' 20 _ (by decide) (by decide)) j hj ?_
        have : NX d w j = NU d w j := by simp only [NX, NU, if_pos c, t', if_false, Bool.false_eq_true]
        rw [← this]; exact key
    · have : NX d w j = -1 := by simp [NX, Nat.not_lt.mpr c]
      rw [← this]; exact key
  rw [h2, h5]
  refine pk_le w j (fun c => ?_) (fun c => ?_)
  · have : TN d w j = false := by simp [TN, Nat.not_lt.mpr c]
    rw [this] at k36; exact k36
  · obtain ⟨f, t, ef, et, ft, t40⟩ := hT.2 j c
    rw [nI_clamp (by omega), e2, ef, nI_clamp (by omega), e1]
    refine ⟨vp_in_nI (by omega) (by omega), vp_in_nI (by omega) (by omega), br_c (fun q => ?_) (fun q => ?_)⟩
    · have : TN d w j = true := by simp only [TN, ef, nI_clamp (show f < 2 ^ 31 by omega), q, c, and_self, decide_true]
      rw [this] at k36; exact k36
    · have : TN d w j = false := by
        simp only [TN, ef, nI_clamp (show f < 2 ^ 31 by omega)]
        exact decide_eq_false (fun z => q z.2)
      rw [this] at k36; exact k36
theorem pM_on (b : Bool) (hm : HI) (hl : HL) (Φ : Int32 → HI → HL → Prop) (j : Nat) (h5 : hm 0 5 = nI j) : wpM_on (bI b) hm hl Φ = Φ (bI b) (u2 hm 0 5 (nI (if b = true then j + 1 else j))) hl := by
  unfold wpM_on wbM_on_0
  cases b
  · simp [bI, i01, h5]
  · simp [bI, i01, h5, nI_1]
