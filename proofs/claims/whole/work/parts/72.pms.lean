/-! M: sorts as numbers (a width, or 4 more than the elements' width), and the readers of one word -/
def sc (d : HI) (s : Nat) : Nat := if d 15 s = 0 then (d 16 s).toNatClampNeg else 4 + (d 16 s).toNatClampNeg
def ns (d : HI) (x : Int32) : Nat := sc d (d 6 x.toNatClampNeg).toNatClampNeg
def bts (c : Nat) : Nat := if c ≤ 4 then c else 2 * (c - 4)
def wdt (c : Nat) : Nat := if c ≤ 4 then c else c - 4
theorem sc_cases {d : HI} {n : Nat} (hW : WL d n) {s : Nat} (hs : s < n) (h5 : d 5 s = 0) : (d 15 s = 0 ∧ d 16 s = nI (sc d s) ∧ 1 ≤ sc d s ∧ sc d s ≤ 3) ∨ (d 15 s = 1 ∧ d 16 s = nI (sc d s - 4) ∧ 5 ≤ sc d s ∧ sc d s ≤ 7) := by
  obtain ⟨w, h1, h3, e, b⟩ := hW.2.2 s hs h5
  rcases b with b | b
  · left
    have : sc d s = w := by unfold sc; rw [if_pos b, e, nI_clamp (by omega)]
    rw [this]; exact ⟨b, e, h1, h3⟩
  · right
    have : sc d s = 4 + w := by unfold sc; rw [if_neg (by rw [b]; decide), e, nI_clamp (by omega)]
    rw [this]; exact ⟨b, by rw [e]; congr 1; omega, by omega, by omega⟩
theorem sc_b {d : HI} {n : Nat} (hW : WL d n) {s : Nat} (hs : s < n) (h5 : d 5 s = 0) : (d 15 s = 0) = (sc d s ≤ 4) := by
  rcases sc_cases hW hs h5 with ⟨a, b, c, e⟩ | ⟨a, b, c, e⟩
  · simp [a]; omega
  · simp [a]; omega
theorem sc_w {d : HI} {n : Nat} (hW : WL d n) {s : Nat} (hs : s < n) (h5 : d 5 s = 0) : d 16 s = nI (wdt (sc d s)) := by
  rcases sc_cases hW hs h5 with ⟨a, b, c, e⟩ | ⟨a, b, c, e⟩
  · rw [b]; unfold wdt; rw [if_pos (by omega)]
  · rw [b]; unfold wdt; rw [if_neg (by omega)]
theorem sc_r {d : HI} {n : Nat} (hW : WL d n) {s : Nat} (hs : s < n) (h5 : d 5 s = 0) : 1 ≤ sc d s ∧ sc d s ≤ 7 ∧ sc d s ≠ 4 ∧ 1 ≤ wdt (sc d s) ∧ wdt (sc d s) ≤ 3 := by
  rcases sc_cases hW hs h5 with ⟨a, b, c, e⟩ | ⟨a, b, c, e⟩ <;> unfold wdt <;> split <;> omega
theorem NW_full {d : HI} {n : Nat} (hW : WL d n) (w j : Nat) : NW d n w j = -1 ∨ ∃ k s, k < n ∧ s < n ∧ NW d n w j = nI k ∧ nod (d 5 k) ∧ d 6 k = nI s ∧ d 5 s = 0 ∧ (TN d w j = true → sc d s ≤ 4) ∧ ns d (NW d n w j) = sc d s := by
  have hn := hW.1
  rcases NW_cases d n w j hW.1 with e | ⟨k, hk, e, hno, ht⟩
  · exact Or.inl e
  · obtain ⟨s, hs, es, e5⟩ := hW.2.1 k hk hno
    refine Or.inr ⟨k, s, hk, hs, e, hno, es, e5, fun t => ?_, ?_⟩
    · have := ht t
      rw [es, nI_clamp (by omega)] at this
      rwa [sc_b hW hs e5] at this
    · rw [e]; unfold ns; rw [nI_clamp (by omega), es, nI_clamp (by omega)]
theorem pM_isBits {d hm : HI} {n w : Nat} {hl : HL} {Φ : Int32 → HI → HL → Prop} (hW : WL d n) (hR : RC d hm n w) (s : Nat) (hs : s < n) (h5 : d 5 s = 0) : wpM_isBits (nI s) hm hl Φ = Φ (bI (decide (sc d s ≤ 4))) hm hl := by
  have hn := hW.1
  unfold wpM_isBits wbM_isBits_0
  rw [nI_clamp (by omega), hR.2.2.2.2.2 15 (by omega) (by omega) s hs]
  have hv : vp_in (nI s) 21 := vp_in_nI (by omega) (by omega)
  have hb := sc_b hW hs h5
  by_cases q : sc d s ≤ 4
  · simp [hv, hb, q, bI, i01]
  · simp [hv, hb, q, bI, i01]
theorem pM_sameSort {d hm : HI} {n w : Nat} {hl : HL} {Φ : Int32 → HI → HL → Prop} (hW : WL d n) (hR : RC d hm n w) (s t : Nat) (hs : s < n) (h5 : d 5 s = 0) (ht : t < n) (h5t : d 5 t = 0) : wpM_sameSort (nI s) (nI t) hm hl Φ = Φ (bI (decide (sc d s = sc d t))) hm hl := by
  have hn := hW.1
  unfold wpM_sameSort wbM_sameSort_0 wbM_sameSort_34
  rw [nI_clamp (by omega), nI_clamp (by omega)]
  rw [hR.2.2.2.2.2 15 (by omega) (by omega) s hs, hR.2.2.2.2.2 16 (by omega) (by omega) s hs, hR.2.2.2.2.2 15 (by omega) (by omega) t ht, hR.2.2.2.2.2 16 (by omega) (by omega) t ht]
  have hv : vp_in (nI s) 21 := vp_in_nI (by omega) (by omega)
  have hv2 : vp_in (nI t) 21 := vp_in_nI (by omega) (by omega)
  have e : (d 15 s = d 15 t ∧ d 16 s = d 16 t) = (sc d s = sc d t) := by
    rcases sc_cases hW hs h5 with ⟨a, b, c, e⟩ | ⟨a, b, c, e⟩ <;> rcases sc_cases hW ht h5t with ⟨a', b', c', e'⟩ | ⟨a', b', c', e'⟩
    · rw [a, a', b, b', nI_eq (by omega) (by omega)]; simp
    · rw [a, a']; simp; omega
    · rw [a, a']; simp; omega
    · rw [a, a', b, b', nI_eq (by omega) (by omega)]; simp; omega
  simp only [← e]
  by_cases q : d 15 s = d 15 t
  · by_cases r : d 16 s = d 16 t
    · simp [hv, hv2, q, r, bI, i01]
    · simp [hv, hv2, q, r, bI, i01]
  · simp [hv, hv2, q, bI, i01]
theorem pM_bits {d hm : HI} {n w : Nat} {hl : HL} {Φ : Int32 → HI → HL → Prop} (hW : WL d n) (hR : RC d hm n w) (s : Nat) (hs : s < n) (h5 : d 5 s = 0) : wpM_bits (nI s) hm hl Φ = Φ (nI (bts (sc d s))) hm hl := by
  have hn := hW.1
  unfold wpM_bits wbM_bits_0
  rw [nI_clamp (by omega), hR.2.2.2.2.2 15 (by omega) (by omega) s hs, hR.2.2.2.2.2 16 (by omega) (by omega) s hs]
  have hv : vp_in (nI s) 21 := vp_in_nI (by omega) (by omega)
  rcases sc_cases hW hs h5 with ⟨a, b, c, e⟩ | ⟨a, b, c, e⟩
  · simp [hv, a, b, bts, show sc d s ≤ 4 by omega]
  · have e2 : (2 : Int32) * nI (sc d s - 4) = nI (2 * (sc d s - 4)) := pk_mul 2 _
    simp [hv, a, b, bts, show ¬ sc d s ≤ 4 by omega, e2]
/-- a word that was read as a node -/
def rdS (hm : HI) (ca ct n : Nat) (x t : Int32) (j : Nat) : HI := u2 (u2 (u2 (u2 hm 0 20 t) ca n x) ct n t) 0 5 (nI j)
theorem RC_rd {d hm : HI} {n w : Nat} (h : RC d hm n w) (ca ct : Nat) (x t : Int32) (j : Nat) (ha : 4 ≤ ca) (hc : 4 ≤ ct) : RC d (rdS hm ca ct n x t j) n w :=
  RC_s (RC_l (RC_l (RC_s h 20 _ (by decide) (by decide)) ca n _ ha (Nat.le_refl _)) ct n _ hc (Nat.le_refl _)) 5 _ (by decide) (by decide)
theorem rdS_5 (hm : HI) (ca ct n : Nat) (x t : Int32) (j : Nat) : rdS hm ca ct n x t j 0 5 = nI j := u2_s _ _ _ _
theorem pM_readA {d hm : HI} {n w : Nat} {hl : HL} {Φ : Int32 → HI → HL → Prop} (hT : TXw d w) (hW : WL d n) (hR : RC d hm n w) (j : Nat) (hj : j < 99) (h5 : hm 0 5 = nI j) (any : Bool) (s : Nat) (hs : any = true ∨ (s < n ∧ d 5 s = 0)) (b : Bool) (hb : b = decide (0 ≤ NW d n w j ∧ (any = true ∨ ns d (NW d n w j) = sc d s))) (h : Φ (bI b) (rdS hm 7 10 n (NW d n w j) (bI (TN d w j)) (if b = true then j + 1 else j)) hl) : wpM_readA (bI any) (nI s) hm hl Φ := by
  have hn := hW.1
  unfold wpM_readA wbM_readA_0
  refine pM_nodeWord hT hW hR j (by omega) h5 ?_
  have f6 : hm 0 6 = nI n := hR.1
  have hv : vp_in (nI n) 21 := vp_in_nI (by omega) (by omega)
  have hc : (nI n).toNatClampNeg = n := nI_clamp (by omega)
  simp (decide := true) only [u2_s, u2_c, u2_j, f6, hc, vn_bI]
  refine ⟨hv, hv, ?_⟩
  have hR2 : ∀ x t, RC d (u2 (u2 (u2 hm 0 20 t) 7 n x) 10 n t) n w := fun x t => RC_l (RC_l (RC_s hR 20 _ (by decide) (by decide)) 7 n _ (by decide) (Nat.le_refl _)) 10 n _ (by decide) (Nat.le_refl _)
  have f5 : ∀ x t, (u2 (u2 (u2 hm 0 20 t) 7 n x) 10 n t) 0 5 = nI j := fun x t => by
    simp (decide := true) only [u2_c, u2_j]; exact h5
  have on0 : b = false → wbM_readA_55 (u2 (u2 (u2 hm 0 20 (bI (TN d w j))) 7 n (NW d n w j)) 10 n (bI (TN d w j))) hl Φ := fun q => by
    unfold wbM_readA_55
    have := pM_on false _ hl (fun r1 hi2 hl3 => i01 r1 ∧ Φ r1 hi2 hl3) j (f5 (NW d n w j) (bI (TN d w j)))
    rw [bI_f] at this; rw [this]
    rw [q] at h
    exact ⟨i01_0, h⟩
  have on1 : b = true → wbM_readA_51 (u2 (u2 (u2 hm 0 20 (bI (TN d w j))) 7 n (NW d n w j)) 10 n (bI (TN d w j))) hl Φ := fun q => by
    unfold wbM_readA_51
    have := pM_on true _ hl (fun r1 hi2 hl3 => i01 r1 ∧ Φ r1 hi2 hl3) j (f5 (NW d n w j) (bI (TN d w j)))
    rw [bI_t] at this; rw [this]
    rw [q] at h
    exact ⟨i01_1, h⟩
  rcases NW_full hW w j with e | ⟨k, s', hk, hs', e, hno, e6, e5, ht, en⟩
  · refine br_t (by rw [e]; decide) (on0 ?_)
    rw [hb, e]; simp
  · have h0 : (0 : Int32) ≤ nI k := nI_pos' (by omega)
    refine br_f (by rw [e]; exact nI_pos (by omega)) (br_c (fun q => ?_) (fun q => ?_))
    · rw [bI_0] at q
      have hs2 := hs.resolve_left (by rw [q]; decide)
      refine ⟨by rw [e]; exact vp_in_nI (by omega) (by omega), ?_⟩
      have : hm 6 (NW d n w j).toNatClampNeg = nI s' := by
        rw [e, nI_clamp (by omega), hR.2.2.2.2.2 6 (by omega) (by omega) k hk, e6]
      rw [this, pM_sameSort hW (hR2 _ _) s' s hs' e5 hs2.1 hs2.2]
      refine br_c (fun z => on0 ?_) (fun z => on1 ?_)
      · rw [bI_0, decide_eq_false_iff_not] at z
        rw [hb]; simp [q, en, z]
      · rw [bI_ne, decide_eq_true_eq] at z
        rw [hb]; simp [q, en, z]; rw [e]; exact h0
    · rw [bI_ne] at q
      refine on1 ?_
      rw [hb]; simp [q]; rw [e]; exact h0
