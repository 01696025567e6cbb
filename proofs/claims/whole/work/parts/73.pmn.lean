/-! M's readers of one node word (printed by wip/whole/pure/readers.py) -/
theorem pM_readB {d hm : HI} {n w : Nat} {hl : HL} {Φ : Int32 → HI → HL → Prop} (hT : TXw d w) (hW : WL d n) (hR : RC d hm n w) (j : Nat) (hj : j < 99) (h5 : hm 0 5 = nI j) (s : Nat) (hs : s < n ∧ d 5 s = 0) (b : Bool) (hb : b = decide (0 ≤ NW d n w j ∧ ns d (NW d n w j) = sc d s)) (h : Φ (bI b) (rdS hm 8 11 n (NW d n w j) (bI (TN d w j)) (if b = true then j + 1 else j)) hl) : wpM_readB (nI s) hm hl Φ := by
  have hn := hW.1
  unfold wpM_readB wbM_readB_0
  refine pM_nodeWord hT hW hR j (by omega) h5 ?_
  have f6 : hm 0 6 = nI n := hR.1
  have hv : vp_in (nI n) 21 := vp_in_nI (by omega) (by omega)
  have hc : (nI n).toNatClampNeg = n := nI_clamp (by omega)
  simp (decide := true) only [u2_s, u2_c, u2_j, f6, hc, vn_bI]
  refine ⟨hv, hv, ?_⟩
  have hR2 : RC d (u2 (u2 (u2 hm 0 20 (bI (TN d w j))) 8 n (NW d n w j)) 11 n (bI (TN d w j))) n w := RC_l (RC_l (RC_s hR 20 _ (by decide) (by decide)) 8 n _ (by decide) (Nat.le_refl _)) 11 n _ (by decide) (Nat.le_refl _)
  have f5 : (u2 (u2 (u2 hm 0 20 (bI (TN d w j))) 8 n (NW d n w j)) 11 n (bI (TN d w j))) 0 5 = nI j := by
    simp (decide := true) only [u2_c, u2_j]; exact h5
  have on0 : b = false → wpM_on 0 (u2 (u2 (u2 hm 0 20 (bI (TN d w j))) 8 n (NW d n w j)) 11 n (bI (TN d w j))) hl (fun r1 hi2 hl3 => i01 r1 ∧ Φ r1 hi2 hl3) := fun q => by
    have := pM_on false _ hl (fun r1 hi2 hl3 => i01 r1 ∧ Φ r1 hi2 hl3) j f5
    rw [bI_f] at this; rw [this]
    rw [q] at h
    exact ⟨i01_0, h⟩
  have on1 : b = true → wpM_on 1 (u2 (u2 (u2 hm 0 20 (bI (TN d w j))) 8 n (NW d n w j)) 11 n (bI (TN d w j))) hl (fun r1 hi2 hl3 => i01 r1 ∧ Φ r1 hi2 hl3) := fun q => by
    have := pM_on true _ hl (fun r1 hi2 hl3 => i01 r1 ∧ Φ r1 hi2 hl3) j f5
    rw [bI_t] at this; rw [this]
    rw [q] at h
    exact ⟨i01_1, h⟩
  unfold wbM_readB_51
  rcases NW_full hW w j with e | ⟨k, s', hk, hs', e, hno, e6, e5, ht, en⟩
  · refine br_t (by rw [e]; decide) (on0 ?_)
    rw [hb, e]; simp
  · have h0 : (0 : Int32) ≤ nI k := nI_pos' (by omega)
    have h0' : 0 ≤ NW d n w j := by rw [e]; exact h0
    have hv2 : vp_in (NW d n w j) 21 := by rw [e]; exact vp_in_nI (by omega) (by omega)
    have e6' : hm 6 (NW d n w j).toNatClampNeg = nI s' := by
      rw [e, nI_clamp (by omega), hR.2.2.2.2.2 6 (by omega) (by omega) k hk, e6]
    have hc2 : (nI s').toNatClampNeg = s' := nI_clamp (by omega)
    have e16 : hm 16 s' = nI (wdt (sc d s')) := by
      rw [hR.2.2.2.2.2 16 (by omega) (by omega) s' hs', sc_w hW hs' e5]
    have hr := sc_r hW hs' e5
    simp (decide := true) only [u2_c, e6', hc2, e16]
    refine br_f (by rw [e]; exact nI_pos (by omega)) ?_
    refine ⟨hv2, ?_⟩
    rw [pM_sameSort hW hR2 s' s hs' e5 hs.1 hs.2]
    refine br_c (fun z => on0 ?_) (fun z => on1 ?_)
    · rw [bI_0, decide_eq_false_iff_not] at z
      rw [hb]; simp [en, z]
    · rw [bI_ne, decide_eq_true_eq] at z
      rw [hb]; simp [en, z, h0']

theorem pM_bitsA {d hm : HI} {n w : Nat} {hl : HL} {Φ : Int32 → HI → HL → Prop} (hT : TXw d w) (hW : WL d n) (hR : RC d hm n w) (j : Nat) (hj : j < 99) (h5 : hm 0 5 = nI j) (v : Nat) (hv3 : v ≤ 3) (b : Bool) (hb : b = decide (0 ≤ NW d n w j ∧ ns d (NW d n w j) ≤ 4 ∧ (v = 0 ∨ ns d (NW d n w j) = v))) (h : Φ (bI b) (rdS hm 7 10 n (NW d n w j) (bI (TN d w j)) (if b = true then j + 1 else j)) hl) : wpM_bitsA (nI v) hm hl Φ := by
  have hn := hW.1
  unfold wpM_bitsA wbM_bitsA_0
  refine pM_nodeWord hT hW hR j (by omega) h5 ?_
  have f6 : hm 0 6 = nI n := hR.1
  have hv : vp_in (nI n) 21 := vp_in_nI (by omega) (by omega)
  have hc : (nI n).toNatClampNeg = n := nI_clamp (by omega)
  simp (decide := true) only [u2_s, u2_c, u2_j, f6, hc, vn_bI]
  refine ⟨hv, hv, ?_⟩
  have hR2 : RC d (u2 (u2 (u2 hm 0 20 (bI (TN d w j))) 7 n (NW d n w j)) 10 n (bI (TN d w j))) n w := RC_l (RC_l (RC_s hR 20 _ (by decide) (by decide)) 7 n _ (by decide) (Nat.le_refl _)) 10 n _ (by decide) (Nat.le_refl _)
  have f5 : (u2 (u2 (u2 hm 0 20 (bI (TN d w j))) 7 n (NW d n w j)) 10 n (bI (TN d w j))) 0 5 = nI j := by
    simp (decide := true) only [u2_c, u2_j]; exact h5
  have on0 : b = false → wpM_on 0 (u2 (u2 (u2 hm 0 20 (bI (TN d w j))) 7 n (NW d n w j)) 10 n (bI (TN d w j))) hl (fun r1 hi2 hl3 => i01 r1 ∧ Φ r1 hi2 hl3) := fun q => by
    have := pM_on false _ hl (fun r1 hi2 hl3 => i01 r1 ∧ Φ r1 hi2 hl3) j f5
    rw [bI_f] at this; rw [this]
    rw [q] at h
    exact ⟨i01_0, h⟩
  have on1 : b = true → wpM_on 1 (u2 (u2 (u2 hm 0 20 (bI (TN d w j))) 7 n (NW d n w j)) 10 n (bI (TN d w j))) hl (fun r1 hi2 hl3 => i01 r1 ∧ Φ r1 hi2 hl3) := fun q => by
    have := pM_on true _ hl (fun r1 hi2 hl3 => i01 r1 ∧ Φ r1 hi2 hl3) j f5
    rw [bI_t] at this; rw [this]
    rw [q] at h
    exact ⟨i01_1, h⟩
  unfold wbM_bitsA_69 wbM_bitsA_65
  rcases NW_full hW w j with e | ⟨k, s', hk, hs', e, hno, e6, e5, ht, en⟩
  · refine br_t (by rw [e]; decide) (on0 ?_)
    rw [hb, e]; simp
  · have h0 : (0 : Int32) ≤ nI k := nI_pos' (by omega)
    have h0' : 0 ≤ NW d n w j := by rw [e]; exact h0
    have hv2 : vp_in (NW d n w j) 21 := by rw [e]; exact vp_in_nI (by omega) (by omega)
    have e6' : hm 6 (NW d n w j).toNatClampNeg = nI s' := by
      rw [e, nI_clamp (by omega), hR.2.2.2.2.2 6 (by omega) (by omega) k hk, e6]
    have hc2 : (nI s').toNatClampNeg = s' := nI_clamp (by omega)
    have e16 : hm 16 s' = nI (wdt (sc d s')) := by
      rw [hR.2.2.2.2.2 16 (by omega) (by omega) s' hs', sc_w hW hs' e5]
    have hr := sc_r hW hs' e5
    simp (decide := true) only [u2_c, e6', hc2, e16]
    refine br_f (by rw [e]; exact nI_pos (by omega)) ?_
    refine ⟨hv2, ?_⟩
    rw [pM_isBits hW hR2 s' hs' e5]
    simp (decide := true) only [u2_c, e6', hc2, e16]
    refine br_c (fun z => on0 ?_) (fun z => ?_)
    · rw [bI_0, decide_eq_false_iff_not] at z
      rw [hb]; simp [en, z]
    · rw [bI_ne, decide_eq_true_eq] at z
      have ew : wdt (sc d s') = sc d s' := by unfold wdt; rw [if_pos z]
      rw [ew]
      refine pk_eq v 0 (fun q => on1 ?_) (fun q => ⟨hv2, vp_in_nI (by omega) (by omega), pk_eq (sc d s') v (fun r => on1 ?_) (fun r => on0 ?_)⟩)
      · rw [hb]; simp [en, z, h0', q]
      · rw [hb]; simp [en, z, h0', r, show v ≤ 4 by omega]
      · rw [hb]; simp [en, r, q]

theorem pM_bitsB {d hm : HI} {n w : Nat} {hl : HL} {Φ : Int32 → HI → HL → Prop} (hT : TXw d w) (hW : WL d n) (hR : RC d hm n w) (j : Nat) (hj : j < 99) (h5 : hm 0 5 = nI j) (v : Nat) (hv3 : v ≤ 7) (b : Bool) (hb : b = decide (0 ≤ NW d n w j ∧ ns d (NW d n w j) ≤ 4 ∧ ns d (NW d n w j) = v)) (h : Φ (bI b) (rdS hm 8 11 n (NW d n w j) (bI (TN d w j)) (if b = true then j + 1 else j)) hl) : wpM_bitsB (nI v) hm hl Φ := by
  have hn := hW.1
  unfold wpM_bitsB wbM_bitsB_0
  refine pM_nodeWord hT hW hR j (by omega) h5 ?_
  have f6 : hm 0 6 = nI n := hR.1
  have hv : vp_in (nI n) 21 := vp_in_nI (by omega) (by omega)
  have hc : (nI n).toNatClampNeg = n := nI_clamp (by omega)
  simp (decide := true) only [u2_s, u2_c, u2_j, f6, hc, vn_bI]
  refine ⟨hv, hv, ?_⟩
  have hR2 : RC d (u2 (u2 (u2 hm 0 20 (bI (TN d w j))) 8 n (NW d n w j)) 11 n (bI (TN d w j))) n w := RC_l (RC_l (RC_s hR 20 _ (by decide) (by decide)) 8 n _ (by decide) (Nat.le_refl _)) 11 n _ (by decide) (Nat.le_refl _)
  have f5 : (u2 (u2 (u2 hm 0 20 (bI (TN d w j))) 8 n (NW d n w j)) 11 n (bI (TN d w j))) 0 5 = nI j := by
    simp (decide := true) only [u2_c, u2_j]; exact h5
  have on0 : b = false → wpM_on 0 (u2 (u2 (u2 hm 0 20 (bI (TN d w j))) 8 n (NW d n w j)) 11 n (bI (TN d w j))) hl (fun r1 hi2 hl3 => i01 r1 ∧ Φ r1 hi2 hl3) := fun q => by
    have := pM_on false _ hl (fun r1 hi2 hl3 => i01 r1 ∧ Φ r1 hi2 hl3) j f5
    rw [bI_f] at this; rw [this]
    rw [q] at h
    exact ⟨i01_0, h⟩
  have on1 : b = true → wpM_on 1 (u2 (u2 (u2 hm 0 20 (bI (TN d w j))) 8 n (NW d n w j)) 11 n (bI (TN d w j))) hl (fun r1 hi2 hl3 => i01 r1 ∧ Φ r1 hi2 hl3) := fun q => by
    have := pM_on true _ hl (fun r1 hi2 hl3 => i01 r1 ∧ Φ r1 hi2 hl3) j f5
    rw [bI_t] at this; rw [this]
    rw [q] at h
    exact ⟨i01_1, h⟩
  unfold wbM_bitsB_65
  rcases NW_full hW w j with e | ⟨k, s', hk, hs', e, hno, e6, e5, ht, en⟩
  · refine br_t (by rw [e]; decide) (on0 ?_)
    rw [hb, e]; simp
  · have h0 : (0 : Int32) ≤ nI k := nI_pos' (by omega)
    have h0' : 0 ≤ NW d n w j := by rw [e]; exact h0
    have hv2 : vp_in (NW d n w j) 21 := by rw [e]; exact vp_in_nI (by omega) (by omega)
    have e6' : hm 6 (NW d n w j).toNatClampNeg = nI s' := by
      rw [e, nI_clamp (by omega), hR.2.2.2.2.2 6 (by omega) (by omega) k hk, e6]
    have hc2 : (nI s').toNatClampNeg = s' := nI_clamp (by omega)
    have e16 : hm 16 s' = nI (wdt (sc d s')) := by
      rw [hR.2.2.2.2.2 16 (by omega) (by omega) s' hs', sc_w hW hs' e5]
    have hr := sc_r hW hs' e5
    simp (decide := true) only [u2_c, e6', hc2, e16]
    refine br_f (by rw [e]; exact nI_pos (by omega)) ?_
    refine ⟨hv2, ?_⟩
    rw [pM_isBits hW hR2 s' hs' e5]
    simp (decide := true) only [u2_c, e6', hc2, e16]
    refine br_c (fun z => on0 ?_) (fun z => ?_)
    · rw [bI_0, decide_eq_false_iff_not] at z
      rw [hb]; simp [en, z]
    · rw [bI_ne, decide_eq_true_eq] at z
      have ew : wdt (sc d s') = sc d s' := by unfold wdt; rw [if_pos z]
      rw [ew]
      refine ⟨hv2, vp_in_nI (by omega) (by omega), pk_eq (sc d s') v (fun r => on1 ?_) (fun r => on0 ?_)⟩
      · rw [hb, decide_eq_true_eq, en]; exact ⟨h0', z, r⟩
      · rw [hb]; simp [en, r]

