theorem vn_0 : vp_nar .boolean (0 : Int32) = 0 := by decide
theorem ndf15 {d : HI} {n : Nat} (hW : WL d n) {w j k s' : Nat} (hs' : s' < n) (e5 : d 5 s' = 0) (en : ns d (NW d n w j) = sc d s') (hm : HI) (hR : RC d hm n w) : (hm 15 s' = 0) = (ns d (NW d n w j) ≤ 4) := by
  rw [hR.2.2.2.2.2 15 (by omega) (by omega) s' hs', en]; exact sc_b hW hs' e5
theorem pM_readPlace {d hm : HI} {n w : Nat} {hl : HL} {Φ : Int32 → HI → HL → Prop} (hT : TXw d w) (hW : WL d n) (hR : RC d hm n w) (h5 : hm 0 5 = nI 3) (s : Nat) (hs : s < n) (e5 : d 5 s = 0) (κ : Nat) (hκ : κ = 25 ∨ κ = 26)
    (h : ∀ b hm', Po d n w hm (decide (0 ≤ NW d n w 3 ∧ ¬ ns d (NW d n w 3) ≤ 4 ∧ wdt (ns d (NW d n w 3)) = wdt (sc d s)) :: decide (0 ≤ NW d n w 4 ∧ ns d (NW d n w 4) ≤ 4 ∧ ns d (NW d n w 4) = 1) :: (if κ = 25 then [] else [decide (0 ≤ NW d n w 5 ∧ ns d (NW d n w 5) ≤ 4 ∧ ns d (NW d n w 5) = wdt (sc d s))])) 3 (if κ = 25 then (f2 (f2 (fun c => hm c n) 7 10 (NW d n w 3) (bI (TN d w 3))) 8 11 (NW d n w 4) (bI (TN d w 4))) else (f2 (f2 (f2 (fun c => hm c n) 7 10 (NW d n w 3) (bI (TN d w 3))) 8 11 (NW d n w 4) (bI (TN d w 4))) 9 12 (NW d n w 5) (bI (TN d w 5)))) b hm' → Φ (bI b) hm' hl) : wpM_readPlace (nI κ) (nI s) hm hl Φ := by
  have hn := hW.1
  unfold wpM_readPlace wbM_readPlace_0
  have hv : vp_in (nI n) 21 := vp_in_nI (by omega) (by omega)
  have hvs : vp_in (nI s) 21 := vp_in_nI (by omega) (by omega)
  have hc : (nI n).toNatClampNeg = n := nI_clamp (by omega)
  have hcs : (nI s).toNatClampNeg = s := nI_clamp (by omega)
  have hrs := sc_r hW hs e5
  have f6 : hm 0 6 = nI n := hR.1
  have e16 : hm 16 s = nI (wdt (sc d s)) := by rw [hR.2.2.2.2.2 16 (by omega) (by omega) s hs, sc_w hW hs e5]
  refine pM_nodeWord hT hW hR 3 (by omega) h5 ?_
  simp (decide := true) only [u2_s, u2_c, u2_j, f6, hc, vn_0, hcs, e16]
  refine ⟨hv, hv, ?_⟩
  have hR0 : RC d (u2 (u2 (u2 hm 0 20 (bI (TN d w 3))) 7 n (NW d n w 3)) 10 n 0) n w := RC_l (RC_l (RC_s hR 20 _ (by decide) (by decide)) 7 n _ (by decide) (Nat.le_refl _)) 10 n _ (by decide) (Nat.le_refl _)
  have F0 : Fm hm (u2 (u2 (u2 hm 0 20 (bI (TN d w 3))) 7 n (NW d n w 3)) 10 n 0) := Fm_t (Fm_t (Fm_20 _ _) (Fm_c _ _ _ _ (by omega) (by omega))) (Fm_c _ _ _ _ (by omega) (by omega))
  have f5 : (u2 (u2 (u2 hm 0 20 (bI (TN d w 3))) 7 n (NW d n w 3)) 10 n 0) 0 5 = nI 3 := by
    simp (decide := true) only [u2_c, u2_j]; exact h5
  have no : ¬ (0 ≤ NW d n w 3 ∧ ¬ ns d (NW d n w 3) ≤ 4 ∧ wdt (ns d (NW d n w 3)) = wdt (sc d s)) → wbM_readPlace_67 (nI κ) (nI s) (u2 (u2 (u2 hm 0 20 (bI (TN d w 3))) 7 n (NW d n w 3)) 10 n 0) hl Φ := fun q => by
    simp only [decide_eq_false q] at h
    unfold wbM_readPlace_67 wbM_readPlace_68
    exact on_0 f5 (br_t rfl ⟨i01_0, h false _ (Po_f (RC_s hR0 5 _ (by decide) (by decide)) (Fm_t F0 (Fm_5 _ _)) (u2_s _ _ _ _))⟩)
  refine br_c (fun z => no (fun y => ?_)) (fun z => ?_)
  · rw [← i32_nlt] at y; exact y.1 z
  · obtain ⟨k, s', hk, hs', e, hno, e5', ec, ev, ec2, ev2, en, e6, hq⟩ := ndf hW w 3 (nlt0 z)
    have hr := sc_r hW hs' e5'
    have e6' : hm 6 (NW d n w 3).toNatClampNeg = nI s' := by rw [ec]; exact (hq _ hR).1
    have e15 := ndf15 hW (w := w) (j := 3) (k := k) hs' e5' en hm hR
    rw [e6', ec2, (hq _ hR).2]
    refine ⟨ev, ev2, br_c (fun y => no (fun x => ?_)) (fun y => ⟨ev, ev2, hvs, ?_⟩)⟩
    · rw [e15] at y; exact x.2.1 y
    · rw [e15] at y
      refine pk_eq (wdt (ns d (NW d n w 3))) (wdt (sc d s)) (fun x => ?_) (fun x => no (fun r => x r.2.2)) rfl rfl (by rw [en]; omega) (by omega)
      have q : 0 ≤ NW d n w 3 ∧ ¬ ns d (NW d n w 3) ≤ 4 ∧ wdt (ns d (NW d n w 3)) = wdt (sc d s) := ⟨nlt0 z, y, x⟩
      simp only [decide_eq_true q] at h
      have tf : TN d w 3 = false := by
        rcases NW_full hW w 3 with e' | ⟨_, _, _, _, _, _, _, _, ht, en'⟩
        · rw [e'] at q; exact absurd q.1 (by decide)
        · cases tt : TN d w 3
          · rfl
          · exact absurd (ht tt) (by rw [← en']; exact y)
      have hR1 := RC_rd hR 7 10 (NW d n w 3) (bI (TN d w 3)) 4 (by omega) (by omega)
      have F1 := Fm_rd hm 7 10 n (NW d n w 3) (bI (TN d w 3)) 4 (by omega) (by omega) (by omega) (by omega)
      unfold wbM_readPlace_68
      refine on_1 f5 (br_f (by decide) ?_)
      have er : u2 (u2 (u2 (u2 hm 0 20 (bI (TN d w 3))) 7 n (NW d n w 3)) 10 n 0) 0 5 (nI (3 + 1)) = rdS hm 7 10 n (NW d n w 3) (bI (TN d w 3)) 4 := by
        unfold rdS; rw [tf]; rfl
      rw [er]
      refine pM_bitsB hT hW hR1 4 (by omega) (rdS_5 _ _ _ _ _ _ _) 1 (by omega) _ rfl ?_
      by_cases q4 : 0 ≤ NW d n w 4 ∧ ns d (NW d n w 4) ≤ 4 ∧ ns d (NW d n w 4) = 1
      · simp only [decide_eq_true q4] at h
        rw [decide_eq_true q4]
        refine br_f (by decide) ?_
        rw [if_pos rfl]
        have hR2 := RC_rd hR1 8 11 (NW d n w 4) (bI (TN d w 4)) (4 + 1) (by omega) (by omega)
        have F2 := Fm_rd (rdS hm 7 10 n (NW d n w 3) (bI (TN d w 3)) 4) 8 11 n (NW d n w 4) (bI (TN d w 4)) (4 + 1) (by omega) (by omega) (by omega) (by omega)
        have m2 : ∀ c, 4 ≤ c → c ≤ 16 → rdS (rdS hm 7 10 n (NW d n w 3) (bI (TN d w 3)) 4) 8 11 n (NW d n w 4) (bI (TN d w 4)) (4 + 1) c n = f2 (f2 (fun c => hm c n) 7 10 (NW d n w 3) (bI (TN d w 3))) 8 11 (NW d n w 4) (bI (TN d w 4)) c := fun c h1 h2 => (rd_m _ _ _ _ _ _ _ c h1 h2).trans (f2_m _ _ _ _ (rd_m _ _ _ _ _ _ _) c h1 h2)
        rcases hκ with e25 | e26
        · subst e25
          refine br_t rfl ⟨i01_1, ?_⟩
          simp only [if_true] at h
          exact h true _ (Po_c F1 (Po_c F2 ⟨rfl, rdS_5 _ _ _ _ _ _ _, hR2, Fm_r _, fun _ => m2⟩))
        · subst e26
          refine br_f (by decide) ?_
          simp only [show ¬ (26 = 25) by decide, if_false] at h
          refine pM_nodeWord hT hW hR2 5 (by omega) (rdS_5 _ _ _ _ _ _ _) ?_
          have g6 := hR2.1
          simp (decide := true) only [u2_s, u2_c, u2_j, g6, hc, vn_bI, hcs]
          refine ⟨hv, hv, ?_⟩
          have hR3 := RC_l (RC_l (RC_s hR2 20 (bI (TN d w 5)) (by decide) (by decide)) 9 n (NW d n w 5) (by decide) (Nat.le_refl _)) 12 n (bI (TN d w 5)) (by decide) (Nat.le_refl _)
          have g5 : (u2 (u2 (u2 (rdS (rdS hm 7 10 n (NW d n w 3) (bI (TN d w 3)) 4) 8 11 n (NW d n w 4) (bI (TN d w 4)) (4 + 1)) 0 20 (bI (TN d w 5))) 9 n (NW d n w 5)) 12 n (bI (TN d w 5))) 0 5 = nI 5 := by
            simp (decide := true) only [u2_c, u2_j]; exact rdS_5 _ _ _ _ _ _ _
          have pm : ∀ b, decide (0 ≤ NW d n w 5 ∧ ns d (NW d n w 5) ≤ 4 ∧ ns d (NW d n w 5) = wdt (sc d s)) = b → Φ (bI b) (rdS (rdS (rdS hm 7 10 n (NW d n w 3) (bI (TN d w 3)) 4) 8 11 n (NW d n w 4) (bI (TN d w 4)) (4 + 1)) 9 12 n (NW d n w 5) (bI (TN d w 5)) (if b = true then 6 else 5)) hl := fun b hb => h b _ (by
            rw [hb]
            exact Po_c F1 (Po_c F2 (Po_m (Po_rd 9 12 (by omega) (by omega) (by omega) (by omega) hR2) (f2_m _ _ _ _ m2))))
          unfold wbM_readPlace_167
          refine br_c (fun z5 => ?_) (fun z5 => ?_)
          · refine on_0 g5 ⟨i01_0, pm false (decide_eq_false (fun y => ?_))⟩
            rw [← i32_nlt] at y; exact y.1 z5
          · obtain ⟨k5, s5, hk5, hs5, ek5, hno5, e55, ec5, ev5, ec25, ev25, en5, e65, hq5⟩ := ndf hW w 5 (nlt0 z5)
            have hr5 := sc_r hW hs5 e55
            rw [ec5, (hq5 _ hR2).1, pM_isBits hW hR3 s5 hs5 e55]
            refine ⟨ev5, br_c (fun y5 => ?_) (fun y5 => ?_)⟩
            · rw [bI_0, decide_eq_false_iff_not] at y5
              refine on_0 g5 ⟨i01_0, pm false (decide_eq_false (fun y => ?_))⟩
              rw [en5] at y; exact y5 y.2.1
            · rw [bI_ne, decide_eq_true_eq] at y5
              have w5 : wdt (ns d (NW d n w 5)) = ns d (NW d n w 5) := by unfold wdt; rw [if_pos (by rw [en5]; exact y5)]
              rw [(hq5 _ hR3).1, ec25, (hq5 _ hR3).2, w5, hR3.2.2.2.2.2 16 (by omega) (by omega) s hs, sc_w hW hs e5]
              refine ⟨ev5, ev25, hvs, pk_eq (ns d (NW d n w 5)) (wdt (sc d s)) (fun x5 => ?_) (fun x5 => ?_) rfl rfl (by omega) (by omega)⟩
              · exact on_1 g5 ⟨i01_1, pm true (decide_eq_true ⟨nlt0 z5, by omega, x5⟩)⟩
              · exact on_0 g5 ⟨i01_0, pm false (decide_eq_false (fun r => x5 r.2.2))⟩
      · simp only [decide_eq_false q4] at h
        rw [decide_eq_false q4]
        exact br_t rfl ⟨i01_0, h false _ (Po_c F1 (Po_f (RC_rd hR1 _ _ _ _ _ (by omega) (by omega)) (Fm_rd _ _ _ _ _ _ _ (by omega) (by omega) (by omega) (by omega)) (rdS_5 _ _ _ _ _ _ _)))⟩
