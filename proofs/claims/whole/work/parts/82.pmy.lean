/-! M: init and next lines; a whole line -/
noncomputable def CKi (d : HI) (n w κ : Nat) : List Bool :=
  [decide (0 ≤ SW d n w 2), decide (0 ≤ NW d n w 3 ∧ TN d w 3 = false ∧ d 5 (NW d n w 3).toNatClampNeg = 2 ∧ ns d (NW d n w 3) = sc d (SW d n w 2).toNatClampNeg ∧ hsq d (nI κ) (NW d n w 3) n = false), decide (0 ≤ NW d n w 4 ∧ ns d (NW d n w 4) = sc d (SW d n w 2).toNatClampNeg ∧ (κ = 28 ∨ FR d (NW d n w 4).toNatClampNeg = false))]
theorem pM_readInit {d hm : HI} {n w : Nat} {hl : HL} {Φ : Int32 → HI → HL → Prop} (hT : TXw d w) (hW : WL d n) (hA : WA d n) (hR : RC d hm n w) (h5 : hm 0 5 = nI 2) (κ : Nat) (hκ : κ = 27 ∨ κ = 28)
    (h : ∀ b hm', Po d n w hm (CKi d n w κ) 2 (fB d n w 4 (f1 (fun c => hm c n) 7 (NW d n w 3))) b hm' → i01 (bI b) ∧ Φ (bI b) hm' hl) : wpM_readInit (nI κ) hm hl Φ := by
  have hn := hW.1
  have hv : vp_in (nI n) 21 := vp_in_nI (by omega) (by omega)
  have hc : (nI n).toNatClampNeg = n := nI_clamp (by omega)
  unfold wpM_readInit wbM_readInit_0
  refine pM_sortWord hT hn hR 2 (by omega) h5 ?_
  unfold CKi at h
  refine br_c (fun z => ?_) (fun z => ?_)
  · have z' : ¬ 0 ≤ SW d n w 2 := by rw [i32_nle]; exact z
    unfold wbM_readInit_15
    simp only [decide_eq_false z'] at h
    exact on_0 h5 (br_t rfl (h false _ (Po_f (RC_s hR 5 _ (by decide) (by decide)) (Fm_5 _ _) (u2_s _ _ _ _))))
  · obtain ⟨s, hs, es, e5, ec, ev⟩ := swf hW w 2 (nlt0 z)
    simp only [decide_eq_true (nlt0 z), ec] at h
    unfold wbM_readInit_15
    refine on_1 h5 (br_f (by decide) ?_)
    have hR1 : RC d (u2 hm 0 5 (nI (2 + 1))) n w := RC_s hR 5 _ (by decide) (by decide)
    have F1 : Fm hm (u2 hm 0 5 (nI (2 + 1))) := Fm_5 _ _
    refine pM_nodeWord hT hW hR1 3 (by omega) (u2_s _ _ _ _) ?_
    have f6 : hm 0 6 = nI n := hR.1
    simp (decide := true) only [u2_s, u2_c, u2_j, f6, hc, bI_0]
    have hR2 : RC d (u2 (u2 (u2 hm 0 5 (nI (2 + 1))) 0 20 (bI (TN d w 3))) 7 n (NW d n w 3)) n w := RC_l (RC_s hR1 20 _ (by decide) (by decide)) 7 n _ (by omega) (Nat.le_refl _)
    have F2 : Fm (u2 hm 0 5 (nI (2 + 1))) (u2 (u2 (u2 hm 0 5 (nI (2 + 1))) 0 20 (bI (TN d w 3))) 7 n (NW d n w 3)) := Fm_t (Fm_20 _ _) (Fm_c _ _ _ _ (by omega) (by omega))
    have g5 : u2 (u2 (u2 hm 0 5 (nI (2 + 1))) 0 20 (bI (TN d w 3))) 7 n (NW d n w 3) 0 5 = nI 3 := by
      simp (decide := true) only [u2_c, u2_s, u2_j]
    have no : ¬ (0 ≤ NW d n w 3 ∧ TN d w 3 = false ∧ d 5 (NW d n w 3).toNatClampNeg = 2 ∧ ns d (NW d n w 3) = sc d s ∧ hsq d (nI κ) (NW d n w 3) n = false) → wbM_readInit_87 (nI κ) (SW d n w 2) (u2 (u2 (u2 hm 0 5 (nI (2 + 1))) 0 20 (bI (TN d w 3))) 7 n (NW d n w 3)) hl Φ := fun y => by
      simp only [decide_eq_false y] at h
      unfold wbM_readInit_87 wbM_readInit_88
      exact on_0 g5 (br_t rfl (h false _ (Po_c F1 (Po_f (RC_s hR2 5 _ (by decide) (by decide)) (Fm_t F2 (Fm_5 _ _)) (u2_s _ _ _ _)))))
    refine ⟨hv, br_c (fun y => no (fun x => ?_)) (fun y => ?_)⟩
    · rw [← i32_nlt] at x; exact x.1 y
    · obtain ⟨k, s', hk, hs', e, hno, e5', ek, ev', ec2, ev2, en, e6, hq⟩ := ndf hW w 3 (nlt0 y)
      have r5 : hm 5 k = d 5 k := hR.2.2.2.2.2 5 (by omega) (by omega) k hk
      refine br_c (fun t => ⟨ev', ?_⟩) (fun t => no (fun x => t x.2.1))
      rw [ek, r5]
      refine br_c (fun k2 => ⟨ev', ?_⟩) (fun k2 => no (fun x => ?_))
      · rw [(hq _ hR).1]
        have eqs : wpM_sameSort (nI s') (SW d n w 2) (u2 (u2 (u2 hm 0 5 (nI (2 + 1))) 0 20 (bI (TN d w 3))) 7 n (NW d n w 3)) hl = wpM_sameSort (nI s') (nI s) (u2 (u2 (u2 hm 0 5 (nI (2 + 1))) 0 20 (bI (TN d w 3))) 7 n (NW d n w 3)) hl := by rw [← es]
        rw [eqs, pM_sameSort hW hR2 s' s hs' e5' hs e5]
        refine br_c (fun q => no (fun x => ?_)) (fun q => ?_)
        · rw [bI_0, decide_eq_false_iff_not] at q; rw [en] at x; exact q x.2.2.2.1
        · rw [bI_ne, decide_eq_true_eq] at q
          refine pM_has hW hR2 (nI κ) (NW d n w 3) ?_
          refine br_c (fun p => ?_) (fun p => no (fun x => ?_))
          · rw [bI_0] at p
            have q3 : 0 ≤ NW d n w 3 ∧ TN d w 3 = false ∧ d 5 (NW d n w 3).toNatClampNeg = 2 ∧ ns d (NW d n w 3) = sc d s ∧ hsq d (nI κ) (NW d n w 3) n = false := ⟨nlt0 y, t, by rw [ek]; exact k2, by rw [en]; exact q, p⟩
            simp only [decide_eq_true q3] at h
            unfold wbM_readInit_88
            refine on_1 g5 (br_f (by decide) ?_)
            have hR3 := RC_s hR2 5 (nI (3 + 1)) (by decide) (by decide)
            refine pM_nodeWord hT hW hR3 4 (by omega) (u2_s _ _ _ _) ?_
            have g6 := hR3.1
            simp (decide := true) only [u2_s, u2_c, u2_j, f6, hc, vn_bI]
            refine ⟨hv, hv, ?_⟩
            have F3 : Fm (u2 hm 0 5 (nI (2 + 1))) (u2 (u2 (u2 (u2 hm 0 5 (nI (2 + 1))) 0 20 (bI (TN d w 3))) 7 n (NW d n w 3)) 0 5 (nI (3 + 1))) := Fm_t F2 (Fm_5 _ _)
            have m3 : ∀ c, 4 ≤ c → c ≤ 16 → (u2 (u2 (u2 (u2 hm 0 5 (nI (2 + 1))) 0 20 (bI (TN d w 3))) 7 n (NW d n w 3)) 0 5 (nI (3 + 1))) c n = f1 (fun c => hm c n) 7 (NW d n w 3) c := fun c h1 h2 => by
              unfold f1
              rw [u2_c _ _ _ _ (by omega)]
              by_cases c7 : c = 7
              · subst c7; rw [u2_s, if_pos rfl]
              · rw [u2_c _ _ _ _ c7, if_neg c7, u2_c _ _ _ _ (by omega), u2_c _ _ _ _ (by omega)]
            have hR4 := RC_l (RC_l (RC_s hR3 20 (bI (TN d w 4)) (by decide) (by decide)) 8 n (NW d n w 4) (by decide) (Nat.le_refl _)) 11 n (bI (TN d w 4)) (by decide) (Nat.le_refl _)
            have g5' : (u2 (u2 (u2 (u2 (u2 (u2 (u2 hm 0 5 (nI (2 + 1))) 0 20 (bI (TN d w 3))) 7 n (NW d n w 3)) 0 5 (nI (3 + 1))) 0 20 (bI (TN d w 4))) 8 n (NW d n w 4)) 11 n (bI (TN d w 4))) 0 5 = nI 4 := by
              simp (decide := true) only [u2_c, u2_s, u2_j]
            have F4 : Fm (u2 (u2 (u2 (u2 hm 0 5 (nI (2 + 1))) 0 20 (bI (TN d w 3))) 7 n (NW d n w 3)) 0 5 (nI (3 + 1))) (u2 (u2 (u2 (u2 (u2 (u2 (u2 hm 0 5 (nI (2 + 1))) 0 20 (bI (TN d w 3))) 7 n (NW d n w 3)) 0 5 (nI (3 + 1))) 0 20 (bI (TN d w 4))) 8 n (NW d n w 4)) 11 n (bI (TN d w 4))) := Fm_t (Fm_t (Fm_20 _ _) (Fm_c _ _ _ _ (by omega) (by omega))) (Fm_c _ _ _ _ (by omega) (by omega))
            have m4 : ∀ c, 4 ≤ c → c ≤ 16 → (u2 (u2 (u2 (u2 (u2 (u2 (u2 hm 0 5 (nI (2 + 1))) 0 20 (bI (TN d w 3))) 7 n (NW d n w 3)) 0 5 (nI (3 + 1))) 0 20 (bI (TN d w 4))) 8 n (NW d n w 4)) 11 n (bI (TN d w 4))) c n = fB d n w 4 (f1 (fun c => hm c n) 7 (NW d n w 3)) c := fun c h1 h2 => by
              unfold fB f2
              by_cases c11 : c = 11
              · subst c11; rw [u2_s, if_pos rfl]
              · rw [u2_c _ _ _ _ c11, if_neg c11]
                by_cases c8 : c = 8
                · subst c8; rw [u2_s, if_pos rfl]
                · rw [u2_c _ _ _ _ c8, if_neg c8, u2_c _ _ _ _ (by omega)]; exact m3 c h1 h2
            have pm : ∀ b g, decide (0 ≤ NW d n w 4 ∧ ns d (NW d n w 4) = sc d s ∧ (κ = 28 ∨ FR d (NW d n w 4).toNatClampNeg = false)) = b → i01 (bI b) ∧ Φ (bI b) (u2 (s18 (u2 (u2 (u2 (u2 (u2 (u2 (u2 hm 0 5 (nI (2 + 1))) 0 20 (bI (TN d w 3))) 7 n (NW d n w 3)) 0 5 (nI (3 + 1))) 0 20 (bI (TN d w 4))) 8 n (NW d n w 4)) 11 n (bI (TN d w 4))) g) 0 5 (nI (if b = true then 5 else 4))) hl := fun b g hb => h b _ (by
              rw [hb]
              refine Po_c F1 (Po_c F3 (Po_1 (RC_s (RC_18 hR4 g) 5 _ (by decide) (by decide)) (Fm_t F4 (Fm_t (Fm_18 _ g) (Fm_5 _ _))) (u2_s _ _ _ _) (fun _ c h1 h2 => ?_)))
              rw [u2_c _ _ _ _ (by omega), s18_c _ _ (by omega)]
              exact m4 c h1 h2)
            have pm0 : ∀ b, decide (0 ≤ NW d n w 4 ∧ ns d (NW d n w 4) = sc d s ∧ (κ = 28 ∨ FR d (NW d n w 4).toNatClampNeg = false)) = b → i01 (bI b) ∧ Φ (bI b) (u2 (u2 (u2 (u2 (u2 (u2 (u2 (u2 hm 0 5 (nI (2 + 1))) 0 20 (bI (TN d w 3))) 7 n (NW d n w 3)) 0 5 (nI (3 + 1))) 0 20 (bI (TN d w 4))) 8 n (NW d n w 4)) 11 n (bI (TN d w 4))) 0 5 (nI (if b = true then 5 else 4))) hl := fun b hb => by
              have := pm b ((u2 (u2 (u2 (u2 (u2 (u2 (u2 hm 0 5 (nI (2 + 1))) 0 20 (bI (TN d w 3))) 7 n (NW d n w 3)) 0 5 (nI (3 + 1))) 0 20 (bI (TN d w 4))) 8 n (NW d n w 4)) 11 n (bI (TN d w 4))) 18) hb
              rwa [s18_s] at this
            unfold wbM_readInit_166 wbM_readInit_162
            refine br_c (fun z4 => ?_) (fun z4 => ?_)
            · refine on_0 g5' (pm0 false (decide_eq_false (fun x => ?_)))
              rw [← i32_nlt] at x; exact x.1 z4
            · obtain ⟨k4, s4, hk4, hs4, ek4, hno4, e54, ec4, ev4, ec24, ev24, en4, e64', hq4⟩ := ndf hW w 4 (nlt0 z4)
              rw [ec4, (hq4 _ hR).1]
              have eqs4 : ∀ hm1 hl, wpM_sameSort (nI s4) (SW d n w 2) hm1 hl = wpM_sameSort (nI s4) (nI s) hm1 hl := fun hm1 hl => by rw [← es]
              rw [eqs4, pM_sameSort hW hR4 s4 s hs4 e54 hs e5]
              refine ⟨ev4, br_c (fun q4 => ?_) (fun q4 => ?_)⟩
              · rw [bI_0, decide_eq_false_iff_not] at q4
                exact on_0 g5' (pm0 false (decide_eq_false (fun x => q4 (by rw [en4] at x; exact x.2.1))))
              · rw [bI_ne, decide_eq_true_eq] at q4
                refine pk_eq κ 28 (fun k28 => ?_) (fun k28 => ?_)
                · exact on_1 g5' (pm0 true (decide_eq_true ⟨nlt0 z4, by rw [en4]; exact q4, Or.inl k28⟩))
                · have eqf : ∀ hm1 hl, wpM_fixed (NW d n w 4) hm1 hl = wpM_fixed (nI k4) hm1 hl := fun hm1 hl => by rw [← ek4]
                  rw [eqf]
                  refine pM_fixed hW hA hR4 k4 hk4 hno4 (fun g => ?_)
                  have g5s : s18 (u2 (u2 (u2 (u2 (u2 (u2 (u2 hm 0 5 (nI (2 + 1))) 0 20 (bI (TN d w 3))) 7 n (NW d n w 3)) 0 5 (nI (3 + 1))) 0 20 (bI (TN d w 4))) 8 n (NW d n w 4)) 11 n (bI (TN d w 4))) g 0 5 = nI 4 := by
                    rw [s18_c _ _ (by decide)]; exact g5'
                  refine br_c (fun p4 => ?_) (fun p4 => ?_)
                  · rw [bI_0] at p4
                    refine on_0 g5s (pm false g (decide_eq_false (fun x => ?_)))
                    rw [ec4] at x
                    have := x.2.2.resolve_left k28
                    rw [this] at p4; exact absurd p4 (by decide)
                  · rw [bI_ne] at p4
                    refine on_1 g5s (pm true g (decide_eq_true ⟨nlt0 z4, by rw [en4]; exact q4, Or.inr ?_⟩))
                    rw [ec4]
                    cases f : FR d k4
                    · rfl
                    · rw [f] at p4; exact absurd p4 (by decide)
          · rw [bI_ne] at p; rw [p] at x; exact absurd x.2.2.2.2 (by decide)
      · rw [ek] at x; exact k2 x.2.2.1
