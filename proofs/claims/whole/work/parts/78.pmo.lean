theorem ndf {d : HI} {n : Nat} (hW : WL d n) (w j : Nat) (q : 0 ≤ NW d n w j) : ∃ k s', k < n ∧ s' < n ∧ NW d n w j = nI k ∧ nod (d 5 k) ∧ d 5 s' = 0 ∧ (NW d n w j).toNatClampNeg = k ∧ vp_in (NW d n w j) 21 ∧ (nI s').toNatClampNeg = s' ∧ vp_in (nI s') 21 ∧ ns d (NW d n w j) = sc d s' ∧ d 6 k = nI s' ∧ (∀ hm, RC d hm n w → hm 6 k = nI s' ∧ hm 16 s' = nI (wdt (ns d (NW d n w j)))) := by
  have hn := hW.1
  rcases NW_full hW w j with e | ⟨k, s', hk, hs', e, hno, e6, e5, ht, en⟩
  · rw [e] at q; exact absurd q (by decide)
  · refine ⟨k, s', hk, hs', e, hno, e5, ?_, ?_, nI_clamp (by omega), vp_in_nI (by omega) (by omega), en, e6, fun hm hR => ⟨?_, ?_⟩⟩
    · rw [e]; exact nI_clamp (by omega)
    · rw [e]; exact vp_in_nI (by omega) (by omega)
    · rw [hR.2.2.2.2.2 6 (by omega) (by omega) k hk, e6]
    · rw [hR.2.2.2.2.2 16 (by omega) (by omega) s' hs', sc_w hW hs' e5, en]
theorem nlt0 {x : Int32} (h : ¬ x < 0) : 0 ≤ x := by rw [← i32_nlt]; exact h
theorem rdS_ca (hm : HI) (ca ct n : Nat) (x t : Int32) (j : Nat) (h : 4 ≤ ca) (hne : ca ≠ ct) : rdS hm ca ct n x t j ca n = x := by
  rw [rdS_n _ _ _ _ _ _ _ _ h]; simp [f2, hne]
theorem rdS_o (hm : HI) (ca ct n : Nat) (x t : Int32) (j c : Nat) (h : 4 ≤ c) (h1 : c ≠ ca) (h2 : c ≠ ct) : rdS hm ca ct n x t j c n = hm c n := by
  rw [rdS_n _ _ _ _ _ _ _ _ h]; simp [f2, h1, h2]
theorem pM_readExtended {d hm : HI} {n w : Nat} {hl : HL} {Φ : Int32 → HI → HL → Prop} (hT : TXw d w) (hW : WL d n) (hR : RC d hm n w) (h5 : hm 0 5 = nI 3) (s : Nat) (hs : s < n) (e5 : d 5 s = 0) (h6 : hm 6 n = nI s) (hS : sc d s ≤ 4)
    (h : ∀ b hm', Po d n w hm [decide (0 ≤ NW d n w 3 ∧ ns d (NW d n w 3) ≤ 4), decide (0 ≤ NU d w 4 ∧ nI (ns d (NW d n w 3)) + NU d w 4 = nI (sc d s))] 3 (f2 (fun c => hm c n) 7 10 (NW d n w 3) (bI (TN d w 3))) b hm' → Φ (bI b) hm' hl) : wpM_readExtended hm hl Φ := by
  have hn := hW.1
  unfold wpM_readExtended wbM_readExtended_0
  have hv : vp_in (nI n) 21 := vp_in_nI (by omega) (by omega)
  have hc : (nI n).toNatClampNeg = n := nI_clamp (by omega)
  refine pM_bitsA hT hW hR 3 (by omega) h5 0 (by omega) (decide (0 ≤ NW d n w 3 ∧ ns d (NW d n w 3) ≤ 4)) (by simp) ?_
  by_cases q : 0 ≤ NW d n w 3 ∧ ns d (NW d n w 3) ≤ 4
  · simp only [decide_eq_true q] at h
    rw [decide_eq_true q]
    have hR1 := RC_rd hR 7 10 (NW d n w 3) (bI (TN d w 3)) 4 (by omega) (by omega)
    refine br_f (by decide) ?_
    rw [if_pos rfl, rdS_5]
    refine pM_number hT hR1 4 (by omega) ?_
    obtain ⟨k, s', hk, hs', e, hno, e5', ec, ev, ec2, ev2, en, e6, hq⟩ := ndf hW w 3 q.1
    have pm : ∀ b, decide (0 ≤ NU d w 4 ∧ nI (ns d (NW d n w 3)) + NU d w 4 = nI (sc d s)) = b → Φ (bI b) (u2 (rdS hm 7 10 n (NW d n w 3) (bI (TN d w 3)) 4) 0 5 (nI (if b = true then 5 else 4))) hl := fun b hb => h b _ (by
      rw [hb]
      exact Po_c (Fm_rd _ 7 10 n (NW d n w 3) (bI (TN d w 3)) 4 (by omega) (by omega) (by omega) (by omega)) (Po_m (Po_5 hR1) (rd_m _ _ _ _ _ _ _)))
    unfold wbM_readExtended_66
    refine br_c (fun z => ?_) (fun z => ?_)
    · refine on_0 (rdS_5 _ _ _ _ _ _ _) ⟨i01_0, pm false (decide_eq_false (fun y => ?_))⟩
      rw [← i32_nlt] at y; exact y.1 z
    · rw [hR1.1, hc, rdS_ca _ _ _ _ _ _ _ (by omega) (by omega), ec, (hq _ hR1).1, rdS_o _ _ _ _ _ _ _ 6 (by omega) (by omega) (by omega), h6, ec2, (hq _ hR1).2, nI_clamp (show s < 2 ^ 31 by omega), hR1.2.2.2.2.2 16 (by omega) (by omega) s hs, sc_w hW hs e5]
      have w1 : wdt (ns d (NW d n w 3)) = ns d (NW d n w 3) := by unfold wdt; rw [if_pos q.2]
      have w2 : wdt (sc d s) = sc d s := by unfold wdt; rw [if_pos hS]
      rw [w1, w2]
      refine ⟨hv, ev, ev2, hv, vp_in_nI (by omega) (by omega), br_c (fun x => ?_) (fun x => ?_)⟩
      · exact on_1 (rdS_5 _ _ _ _ _ _ _) ⟨i01_1, pm true (decide_eq_true ⟨nlt0 z, x⟩)⟩
      · exact on_0 (rdS_5 _ _ _ _ _ _ _) ⟨i01_0, pm false (decide_eq_false (fun r => x r.2))⟩
  · simp only [decide_eq_false q] at h
    rw [decide_eq_false q]
    exact br_t rfl ⟨i01_0, h false _ (Po_f (RC_rd hR _ _ _ _ _ (by omega) (by omega)) (Fm_rd _ _ _ _ _ _ _ (by omega) (by omega) (by omega) (by omega)) (rdS_5 _ _ _ _ _ _ _))⟩
theorem pM_readConcat {d hm : HI} {n w : Nat} {hl : HL} {Φ : Int32 → HI → HL → Prop} (hT : TXw d w) (hW : WL d n) (hR : RC d hm n w) (h5 : hm 0 5 = nI 3) (s : Nat) (hs : s < n) (e5 : d 5 s = 0) (h6 : hm 6 n = nI s) (hS : sc d s ≤ 4)
    (h : ∀ b hm', Po d n w hm [decide (0 ≤ NW d n w 3 ∧ ns d (NW d n w 3) ≤ 4 ∧ ns d (NW d n w 3) < sc d s), decide (0 ≤ NW d n w 4 ∧ ns d (NW d n w 4) ≤ 4 ∧ ns d (NW d n w 4) = sc d s - ns d (NW d n w 3))] 3 (f2 (f2 (fun c => hm c n) 7 10 (NW d n w 3) (bI (TN d w 3))) 8 11 (NW d n w 4) (bI (TN d w 4))) b hm' → Φ (bI b) hm' hl) : wpM_readConcat hm hl Φ := by
  have hn := hW.1
  unfold wpM_readConcat wbM_readConcat_0
  have hv : vp_in (nI n) 21 := vp_in_nI (by omega) (by omega)
  have hc : (nI n).toNatClampNeg = n := nI_clamp (by omega)
  have f6 : hm 0 6 = nI n := hR.1
  refine pM_nodeWord hT hW hR 3 (by omega) h5 ?_
  have hcs : (nI s).toNatClampNeg = s := nI_clamp (by omega)
  have w2 : wdt (sc d s) = sc d s := by unfold wdt; rw [if_pos hS]
  have e16 : hm 16 s = nI (sc d s) := by rw [hR.2.2.2.2.2 16 (by omega) (by omega) s hs, sc_w hW hs e5, w2]
  simp (decide := true) only [u2_s, u2_c, u2_j, f6, hc, vn_bI, h6, hcs, e16]
  refine ⟨hv, hv, hv, vp_in_nI (by omega) (by omega), ?_⟩
  have hR0 : RC d (u2 (u2 (u2 hm 0 20 (bI (TN d w 3))) 7 n (NW d n w 3)) 10 n (bI (TN d w 3))) n w := RC_l (RC_l (RC_s hR 20 _ (by decide) (by decide)) 7 n _ (by decide) (Nat.le_refl _)) 10 n _ (by decide) (Nat.le_refl _)
  have f5 : (u2 (u2 (u2 hm 0 20 (bI (TN d w 3))) 7 n (NW d n w 3)) 10 n (bI (TN d w 3))) 0 5 = nI 3 := by
    simp (decide := true) only [u2_c, u2_j]; exact h5
  have no : ¬ (0 ≤ NW d n w 3 ∧ ns d (NW d n w 3) ≤ 4 ∧ ns d (NW d n w 3) < sc d s) → wbM_readConcat_80 (nI (sc d s)) (u2 (u2 (u2 hm 0 20 (bI (TN d w 3))) 7 n (NW d n w 3)) 10 n (bI (TN d w 3))) hl Φ := fun q => by
    simp only [decide_eq_false q] at h
    unfold wbM_readConcat_80 wbM_readConcat_81
    exact on_0 f5 (br_t rfl ⟨i01_0, h false _ (Po_f (RC_rd hR _ _ _ _ _ (by omega) (by omega)) (Fm_rd _ _ _ _ _ _ _ (by omega) (by omega) (by omega) (by omega)) (rdS_5 _ _ _ _ _ _ _))⟩)
  refine br_c (fun z => no (fun y => ?_)) (fun z => ?_)
  · rw [← i32_nlt] at y; exact y.1 z
  · obtain ⟨k, s', hk, hs', e, hno, e5', ec, ev, ec2, ev2, en, e6, hq⟩ := ndf hW w 3 (nlt0 z)
    refine ⟨ev, ?_⟩
    have e6' : hm 6 (NW d n w 3).toNatClampNeg = nI s' := by rw [ec]; exact (hq _ hR).1
    rw [e6', pM_isBits hW hR0 s' hs' e5']
    refine br_c (fun y => no (fun x => ?_)) (fun y => ?_)
    · rw [bI_0, decide_eq_false_iff_not] at y; rw [en] at x; exact y x.2.1
    · rw [bI_ne, decide_eq_true_eq] at y
      have w1 : wdt (ns d (NW d n w 3)) = ns d (NW d n w 3) := by unfold wdt; rw [if_pos (by rw [en]; exact y)]
      simp (decide := true) only [u2_c, e6', ec2, (hq _ hR).2, w1]
      refine ⟨ev, ev2, pk_le (sc d s) (ns d (NW d n w 3)) (fun x => no (fun r => absurd r.2.2 (by omega))) (fun x => ?_) rfl rfl (by omega) (by omega)⟩
      have q : 0 ≤ NW d n w 3 ∧ ns d (NW d n w 3) ≤ 4 ∧ ns d (NW d n w 3) < sc d s := ⟨nlt0 z, by omega, x⟩
      simp only [decide_eq_true q] at h
      have hR1 := RC_rd hR 7 10 (NW d n w 3) (bI (TN d w 3)) 4 (by omega) (by omega)
      unfold wbM_readConcat_81
      refine on_1 f5 (br_f (by decide) ?_)
      have er : u2 (u2 (u2 (u2 hm 0 20 (bI (TN d w 3))) 7 n (NW d n w 3)) 10 n (bI (TN d w 3))) 0 5 (nI (3 + 1)) = rdS hm 7 10 n (NW d n w 3) (bI (TN d w 3)) 4 := rfl
      rw [er, hR1.1, hc, rdS_ca _ _ _ _ _ _ _ (by omega) (by omega), ec, (hq _ hR1).1, ec2, (hq _ hR1).2, w1, pk_sub (by omega)]
      refine ⟨hv, ev, ev2, ?_⟩
      refine pM_bitsB hT hW hR1 4 (by omega) (rdS_5 _ _ _ _ _ _ _) (sc d s - ns d (NW d n w 3)) (by omega) _ rfl ⟨bI_01 _, h _ _ ?_⟩
      exact Po_c (Fm_rd _ 7 10 n (NW d n w 3) (bI (TN d w 3)) 4 (by omega) (by omega) (by omega) (by omega)) (Po_m (Po_rd 8 11 (by omega) (by omega) (by omega) (by omega) hR1) (f2_m _ _ _ _ (rd_m _ _ _ _ _ _ _)))
theorem pM_readIte {d hm : HI} {n w : Nat} {hl : HL} {Φ : Int32 → HI → HL → Prop} (hT : TXw d w) (hW : WL d n) (hR : RC d hm n w) (h5 : hm 0 5 = nI 3) (s : Nat) (hs : s < n) (e5 : d 5 s = 0)
    (h : ∀ b hm', Po d n w hm [decide (0 ≤ NW d n w 3 ∧ ns d (NW d n w 3) = 1), decide (0 ≤ NW d n w 4 ∧ ns d (NW d n w 4) = sc d s), decide (0 ≤ NW d n w 5 ∧ ns d (NW d n w 5) = sc d s)] 3 (f2 (f2 (f2 (fun c => hm c n) 9 12 (NW d n w 3) (bI (TN d w 3))) 7 10 (NW d n w 4) (bI (TN d w 4))) 8 11 (NW d n w 5) (bI (TN d w 5))) b hm' → Φ (bI b) hm' hl) : wpM_readIte (nI s) hm hl Φ := by
  have hn := hW.1
  unfold wpM_readIte wbM_readIte_0
  have hv : vp_in (nI n) 21 := vp_in_nI (by omega) (by omega)
  have hc : (nI n).toNatClampNeg = n := nI_clamp (by omega)
  have f6 : hm 0 6 = nI n := hR.1
  refine pM_nodeWord hT hW hR 3 (by omega) h5 ?_
  simp (decide := true) only [u2_s, u2_c, u2_j, f6, hc, vn_bI]
  refine ⟨hv, hv, ?_⟩
  have hR0 : RC d (u2 (u2 (u2 hm 0 20 (bI (TN d w 3))) 9 n (NW d n w 3)) 12 n (bI (TN d w 3))) n w := RC_l (RC_l (RC_s hR 20 _ (by decide) (by decide)) 9 n _ (by decide) (Nat.le_refl _)) 12 n _ (by decide) (Nat.le_refl _)
  have f5 : (u2 (u2 (u2 hm 0 20 (bI (TN d w 3))) 9 n (NW d n w 3)) 12 n (bI (TN d w 3))) 0 5 = nI 3 := by
    simp (decide := true) only [u2_c, u2_j]; exact h5
  have no : ¬ (0 ≤ NW d n w 3 ∧ ns d (NW d n w 3) = 1) → wbM_readIte_65 (nI s) (u2 (u2 (u2 hm 0 20 (bI (TN d w 3))) 9 n (NW d n w 3)) 12 n (bI (TN d w 3))) hl Φ := fun q => by
    simp only [decide_eq_false q] at h
    unfold wbM_readIte_65 wbM_readIte_66 wbM_readIte_93
    exact on_0 f5 (br_t rfl ⟨i01_0, h false _ (Po_f (RC_rd hR _ _ _ _ _ (by omega) (by omega)) (Fm_rd _ _ _ _ _ _ _ (by omega) (by omega) (by omega) (by omega)) (rdS_5 _ _ _ _ _ _ _))⟩)
  refine br_c (fun z => no (fun y => ?_)) (fun z => ?_)
  · rw [← i32_nlt] at y; exact y.1 z
  · obtain ⟨k, s', hk, hs', e, hno, e5', ec, ev, ec2, ev2, en, e6, hq⟩ := ndf hW w 3 (nlt0 z)
    refine ⟨ev, ?_⟩
    have hr := sc_r hW hs' e5'
    have e6' : hm 6 (NW d n w 3).toNatClampNeg = nI s' := by rw [ec]; exact (hq _ hR).1
    rw [e6', pM_isBits hW hR0 s' hs' e5']
    refine br_c (fun y => no (fun x => ?_)) (fun y => ?_)
    · rw [bI_0, decide_eq_false_iff_not] at y; rw [en] at x; exact y (by omega)
    · rw [bI_ne, decide_eq_true_eq] at y
      have w1 : wdt (ns d (NW d n w 3)) = ns d (NW d n w 3) := by unfold wdt; rw [if_pos (by rw [en]; exact y)]
      simp (decide := true) only [u2_c, e6', ec2, (hq _ hR).2, w1]
      refine ⟨ev, ev2, pk_eq (ns d (NW d n w 3)) 1 (fun x => ?_) (fun x => no (fun r => x r.2)) rfl rfl (by omega) (by omega)⟩
      have q : 0 ≤ NW d n w 3 ∧ ns d (NW d n w 3) = 1 := ⟨nlt0 z, x⟩
      simp only [decide_eq_true q] at h
      have hR1 := RC_rd hR 9 12 (NW d n w 3) (bI (TN d w 3)) 4 (by omega) (by omega)
      unfold wbM_readIte_66 wbM_readIte_93
      refine on_1 f5 (br_f (by decide) ?_)
      have er : u2 (u2 (u2 (u2 hm 0 20 (bI (TN d w 3))) 9 n (NW d n w 3)) 12 n (bI (TN d w 3))) 0 5 (nI (3 + 1)) = rdS hm 9 12 n (NW d n w 3) (bI (TN d w 3)) 4 := rfl
      rw [er]
      refine pM_readA hT hW hR1 4 (by omega) (rdS_5 _ _ _ _ _ _ _) false s (Or.inr ⟨hs, e5⟩) (decide (0 ≤ NW d n w 4 ∧ ns d (NW d n w 4) = sc d s)) (by simp) ?_
      have F1 := Fm_rd hm 9 12 n (NW d n w 3) (bI (TN d w 3)) 4 (by omega) (by omega) (by omega) (by omega)
      by_cases q4 : 0 ≤ NW d n w 4 ∧ ns d (NW d n w 4) = sc d s
      · simp only [decide_eq_true q4] at h
        rw [decide_eq_true q4]
        refine br_f (by decide) ?_
        rw [if_pos rfl]
        have hR2 := RC_rd hR1 7 10 (NW d n w 4) (bI (TN d w 4)) (4 + 1) (by omega) (by omega)
        have F2 := Fm_rd (rdS hm 9 12 n (NW d n w 3) (bI (TN d w 3)) 4) 7 10 n (NW d n w 4) (bI (TN d w 4)) (4 + 1) (by omega) (by omega) (by omega) (by omega)
        refine pM_readB hT hW hR2 5 (by omega) (rdS_5 _ _ _ _ _ _ _) s ⟨hs, e5⟩ _ rfl ?_
        have hh := h _ _ (Po_c F1 (Po_c F2 (Po_m (Po_rd (b := decide (0 ≤ NW d n w 5 ∧ ns d (NW d n w 5) = sc d s)) (j := 5) (x := NW d n w 5) (t := bI (TN d w 5)) 8 11 (by omega) (by omega) (by omega) (by omega) hR2) (f2_m _ _ _ _ (fun c h1 h2 => (rd_m _ _ _ _ _ _ _ c h1 h2).trans (f2_m _ _ _ _ (rd_m _ _ _ _ _ _ _) c h1 h2))))))
        refine br_c (fun y => ?_) (fun y => ?_)
        · rw [bI_0] at y; rw [y] at hh ⊢; exact ⟨i01_0, hh⟩
        · rw [bI_ne] at y; rw [y] at hh ⊢; exact ⟨i01_1, hh⟩
      · simp only [decide_eq_false q4] at h
        rw [decide_eq_false q4]
        exact br_t rfl ⟨i01_0, h false _ (Po_c F1 (Po_f (RC_rd hR1 _ _ _ _ _ (by omega) (by omega)) (Fm_rd _ _ _ _ _ _ _ (by omega) (by omega) (by omega) (by omega)) (rdS_5 _ _ _ _ _ _ _)))⟩
