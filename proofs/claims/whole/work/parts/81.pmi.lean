/-! M: sort, state, input, init, next lines -/
noncomputable def CKs (d : HI) (n w : Nat) : List Bool :=
  if LTR d w 2 = 1656889 then [true, decide (0 ≤ SW d n w 3 ∧ sc d (SW d n w 3).toNatClampNeg = 1), decide (0 ≤ SW d n w 4 ∧ sc d (SW d n w 4).toNatClampNeg ≤ 4)]
  else if LTR d w 2 = 77224099 then [true, decide (1 ≤ NU d w 3 ∧ NU d w 3 ≤ 3)] else [false]
noncomputable def FNs (d : HI) (n w : Nat) (f : Nat → Int32) : Nat → Int32 :=
  if LTR d w 2 = 1656889 then f1 (f1 f 15 1) 16 (d 16 (SW d n w 4).toNatClampNeg) else f1 (f1 f 15 0) 16 (NU d w 3)
theorem swf {d : HI} {n : Nat} (hW : WL d n) (w j : Nat) (q : 0 ≤ SW d n w j) : ∃ s, s < n ∧ SW d n w j = nI s ∧ d 5 s = 0 ∧ (SW d n w j).toNatClampNeg = s ∧ vp_in (SW d n w j) 21 := by
  have hn := hW.1
  rcases SW_cases d n w j hn with e | ⟨s, hs, e, e5⟩
  · rw [e] at q; exact absurd q (by decide)
  · exact ⟨s, hs, e, e5, by rw [e]; exact nI_clamp (by omega), by rw [e]; exact vp_in_nI (by omega) (by omega)⟩
theorem vn_1 : vp_nar .boolean (1 : Int32) = 1 := by decide
theorem pM_readSort {d hm : HI} {n w : Nat} {hl : HL} {Φ : Int32 → HI → HL → Prop} (hT : TXw d w) (hW : WL d n) (hR : RC d hm n w) (h5 : hm 0 5 = nI 2)
    (h : ∀ b hm', Po d n w hm (CKs d n w) 2 (FNs d n w (fun c => hm c n)) b hm' → i01 (bI b) ∧ Φ (bI b) hm' hl) : wpM_readSort hm hl Φ := by
  have hn := hW.1
  have hv : vp_in (nI n) 21 := vp_in_nI (by omega) (by omega)
  have hc : (nI n).toNatClampNeg = n := nI_clamp (by omega)
  unfold wpM_readSort wbM_readSort_0
  rw [h5]
  refine pM_letters hT hR 2 (by omega) ?_
  rw [lg_cmp_eq]
  unfold wbM_readSort_22 wbM_readSort_36
  refine br_c (fun q => ?_) (fun q => ?_)
  · refine br_f (by decide) ?_
    unfold wbM_readSort_41
    simp only [CKs, FNs, if_pos q] at h
    refine on_1 h5 (br_f (by decide) ?_)
    have F1 : Fm hm (st1 hm 15 n 1 3) := Fm_st _ _ _ _ _ (by omega) (by omega)
    have hR1 : RC d (u2 (u2 hm 0 5 (nI (2 + 1))) 15 n 1) n w := RC_l (RC_s hR 5 _ (by decide) (by decide)) 15 n _ (by omega) (Nat.le_refl _)
    have F1' : Fm hm (u2 (u2 hm 0 5 (nI (2 + 1))) 15 n 1) := Fm_t (Fm_5 _ _) (Fm_c _ _ _ _ (by omega) (by omega))
    have g5 : u2 (u2 hm 0 5 (nI (2 + 1))) 15 n 1 0 5 = nI 3 := by simp (decide := true) only [u2_c, u2_s]
    have g6 : u2 hm 0 5 (nI (2 + 1)) 0 6 = nI n := by simp (decide := true) only [u2_j]; exact hR.1
    rw [g6, hc, vn_1]
    refine ⟨hv, br_f (by decide) ?_⟩
    refine pM_sortWord hT hn hR1 3 (by omega) g5 ?_
    have no : ¬ (0 ≤ SW d n w 3 ∧ sc d (SW d n w 3).toNatClampNeg = 1) → wbM_readSort_132 (u2 (u2 hm 0 5 (nI (2 + 1))) 15 n 1) hl Φ := fun z => by
      simp only [decide_eq_false z] at h
      unfold wbM_readSort_132 wbM_readSort_133
      exact on_0 g5 (br_t rfl (h false _ (Po_c F1' (Po_f (RC_s hR1 5 _ (by decide) (by decide)) (Fm_5 _ _) (u2_s _ _ _ _)))))
    refine br_c (fun z => no (fun y => ?_)) (fun z => ?_)
    · rw [← i32_nlt] at y; exact y.1 z
    · obtain ⟨s, hs, es, e5, ec, ev⟩ := swf hW w 3 (nlt0 z)
      have hr := sc_r hW hs e5
      have hcs : (nI s).toNatClampNeg = s := nI_clamp (by omega)
      rw [es, pM_isBits hW hR1 s hs e5]
      refine br_c (fun y => no (fun x => ?_)) (fun y => ⟨vp_in_nI (by omega) (by omega), ?_⟩)
      · rw [bI_0, decide_eq_false_iff_not] at y; rw [ec] at x; exact y (by omega)
      · rw [bI_ne, decide_eq_true_eq] at y
        have w1 : wdt (sc d s) = sc d s := by unfold wdt; rw [if_pos y]
        rw [hcs, hR1.2.2.2.2.2 16 (by omega) (by omega) s hs, sc_w hW hs e5, w1]
        refine pk_eq (sc d s) 1 (fun x => ?_) (fun x => no (fun r => ?_)) rfl rfl (by omega) (by omega)
        · have q3 : 0 ≤ SW d n w 3 ∧ sc d (SW d n w 3).toNatClampNeg = 1 := ⟨nlt0 z, by rw [ec]; exact x⟩
          simp only [decide_eq_true q3] at h
          unfold wbM_readSort_133
          refine on_1 g5 (br_f (by decide) ?_)
          have hR2 : RC d (u2 (u2 (u2 hm 0 5 (nI (2 + 1))) 15 n 1) 0 5 (nI (3 + 1))) n w := RC_s hR1 5 _ (by decide) (by decide)
          have F2 : Fm (u2 (u2 hm 0 5 (nI (2 + 1))) 15 n 1) (u2 (u2 (u2 hm 0 5 (nI (2 + 1))) 15 n 1) 0 5 (nI (3 + 1))) := Fm_5 _ _
          refine pM_sortWord hT hn hR2 4 (by omega) (u2_s _ _ _ _) ?_
          rw [hR2.1]
          have pm : ∀ b x, decide (0 ≤ SW d n w 4 ∧ sc d (SW d n w 4).toNatClampNeg ≤ 4) = b → (b = true → x = d 16 (SW d n w 4).toNatClampNeg) → i01 (bI b) ∧ Φ (bI b) (st1 (u2 (u2 (u2 hm 0 5 (nI (2 + 1))) 15 n 1) 0 5 (nI (3 + 1))) 16 n x (if b = true then 5 else 4)) hl := fun b x hb hx => h b _ (by
            rw [hb]
            refine Po_c F1' (Po_c F2 (Po_1 (RC_st hR2 _ _ _ (by omega)) (Fm_st _ _ _ _ _ (by omega) (by omega)) (st1_5 _ _ _ _ _) (fun tb c h1 h2 => ?_)))
            rw [st_m _ _ _ _ _ c h1 h2]
            unfold f1
            by_cases c16 : c = 16
            · rw [if_pos c16, if_pos c16]; exact hx tb
            · rw [if_neg c16, if_neg c16]
              show u2 (u2 (u2 hm 0 5 (nI (2 + 1))) 15 n 1) 0 5 (nI (3 + 1)) c n = if c = 15 then 1 else hm c n
              rw [u2_c _ _ _ _ (by omega)]
              by_cases c15 : c = 15
              · subst c15; rw [u2_s, if_pos rfl]
              · rw [u2_c _ _ _ _ c15, if_neg c15, u2_c _ _ _ _ (by omega)])
          have g5' : ∀ x, u2 (u2 (u2 (u2 hm 0 5 (nI (2 + 1))) 15 n 1) 0 5 (nI (3 + 1))) 16 n x 0 5 = nI 4 := fun x => by simp (decide := true) only [u2_c, u2_s]
          unfold wbM_readSort_171 wbM_readSort_191
          rw [hc]
          refine br_c (fun z4 => ?_) (fun z4 => ?_)
          · obtain ⟨s4, hs4, es4, e54, ec4, ev4⟩ := swf hW w 4 z4
            have hp4 : ¬ nI s4 < 0 := nI_pos (by omega)
            refine ⟨ev4, hv, ?_⟩
            rw [ec4, hR2.2.2.2.2.2 16 (by omega) (by omega) s4 hs4]
            rw [es4]
            refine br_f hp4 ?_
            rw [pM_isBits hW (RC_l hR2 16 n _ (by omega) (Nat.le_refl _)) s4 hs4 e54]
            refine br_c (fun y4 => ?_) (fun y4 => ?_)
            · rw [bI_0, decide_eq_false_iff_not] at y4
              exact on_0 (g5' _) (pm false _ (decide_eq_false (fun x4 => y4 (by rw [ec4] at x4; exact x4.2))) (fun t => absurd t (by decide)))
            · rw [bI_ne, decide_eq_true_eq] at y4
              exact on_1 (g5' _) (pm true _ (decide_eq_true ⟨z4, by rw [ec4]; exact y4⟩) (fun _ => by rw [ec4]))
          · have z4' : SW d n w 4 < 0 := by rw [i32_nle] at z4; exact z4
            refine ⟨hv, br_t z4' ?_⟩
            exact on_0 (g5' _) (pm false _ (decide_eq_false (fun x4 => z4 x4.1)) (fun t => absurd t (by decide)))
        · rw [ec] at r; exact x r.2
  · refine br_t rfl ?_
    rw [lg_cmp_eq]
    refine br_c (fun q2 => ?_) (fun q2 => ?_)
    · unfold wbM_readSort_41
      simp only [CKs, FNs, if_neg q, if_pos q2] at h
      refine on_1 h5 (br_f (by decide) ?_)
      have hR1 : RC d (u2 (u2 hm 0 5 (nI (2 + 1))) 15 n 0) n w := RC_l (RC_s hR 5 _ (by decide) (by decide)) 15 n _ (by omega) (Nat.le_refl _)
      have F1' : Fm hm (u2 (u2 hm 0 5 (nI (2 + 1))) 15 n 0) := Fm_t (Fm_5 _ _) (Fm_c _ _ _ _ (by omega) (by omega))
      have g5 : u2 (u2 hm 0 5 (nI (2 + 1))) 15 n 0 0 5 = nI 3 := by simp (decide := true) only [u2_c, u2_s]
      have g6 : u2 hm 0 5 (nI (2 + 1)) 0 6 = nI n := by simp (decide := true) only [u2_j]; exact hR.1
      rw [g6, hc, vn_0]
      refine ⟨hv, br_t rfl ?_⟩
      rw [g5]
      refine pM_number hT hR1 3 (by omega) ?_
      rw [hR1.1, hc]
      refine ⟨hv, ?_⟩
      rw [pM_in, pM_on _ _ _ _ 3 (by simp (decide := true) only [u2_c, u2_s])]
      refine h _ _ (Po_c F1' (Po_m (Po_st 16 (by omega) (by omega) hR1) (f1_m _ _ (fun c h1 h2 => ?_))))
      unfold f1
      by_cases c15 : c = 15
      · subst c15; rw [u2_s, if_pos rfl]
      · rw [u2_c _ _ _ _ c15, if_neg c15, u2_c _ _ _ _ (by omega)]
    · unfold wbM_readSort_41
      simp only [CKs, FNs, if_neg q, if_neg q2] at h
      exact on_0 h5 (br_t rfl (h false _ (Po_f (RC_s hR 5 _ (by decide) (by decide)) (Fm_5 _ _) (u2_s _ _ _ _))))
noncomputable def CKt (d : HI) (n w κ : Nat) : List Bool :=
  [decide (0 ≤ SW d n w 2 ∧ (κ = 2 ∨ sc d (SW d n w 2).toNatClampNeg ≤ 4) ∧ tot d (nI κ) n + bts (sc d (SW d n w 2).toNatClampNeg) ≤ (if κ = 2 then 6 else 2))]
theorem bts_7 {c : Nat} (h : c ≤ 7) : bts c ≤ 6 := by unfold bts; split <;> omega
theorem tot_le {d : HI} {n : Nat} (hW : WL d n) (what : Int32) (hno : nod what) : ∀ k, k ≤ n → tot d what k ≤ 6 * k
  | 0, _ => by simp [tot]
  | k + 1, hk => by
    have ih := tot_le hW what hno k (by omega)
    simp only [tot]
    split
    · rename_i e
      obtain ⟨s, hs, es, e5⟩ := hW.2.1 k (by omega) (by rw [e]; exact hno)
      have hn := hW.1
      have := bts_7 (sc_r hW hs e5).2.1
      rw [es, nI_clamp (by omega)]
      omega
    · omega
theorem nod_nI {κ : Nat} (h1 : 1 ≤ κ) (h2 : κ ≤ 26) : nod (nI κ) := by
  refine ⟨nI_ne0 (by omega) (by omega), ?_⟩
  show ¬ nI 27 ≤ nI κ
  exact nI_ge (by omega) (by omega)
theorem pM_readState {d hm : HI} {n w : Nat} {hl : HL} {Φ : Int32 → HI → HL → Prop} (hT : TXw d w) (hW : WL d n) (hR : RC d hm n w) (h5 : hm 0 5 = nI 2) (κ : Nat) (hκ : κ = 1 ∨ κ = 2)
    (h : ∀ b hm', Po d n w hm (CKt d n w κ) 2 (f1 (fun c => hm c n) 6 (SW d n w 2)) b hm' → i01 (bI b) ∧ Φ (bI b) hm' hl) : wpM_readState (nI κ) hm hl Φ := by
  have hn := hW.1
  have hv : vp_in (nI n) 21 := vp_in_nI (by omega) (by omega)
  have hc : (nI n).toNatClampNeg = n := nI_clamp (by omega)
  have hno := nod_nI (κ := κ) (by omega) (by omega)
  have htl := tot_le hW (nI κ) hno n (Nat.le_refl _)
  unfold wpM_readState wbM_readState_0
  refine pM_sortWord hT hn hR 2 (by omega) h5 ?_
  rw [hR.1, hc]
  have hR1 : RC d (u2 hm 6 n (SW d n w 2)) n w := RC_l hR 6 n _ (by omega) (Nat.le_refl _)
  have g5 : u2 hm 6 n (SW d n w 2) 0 5 = nI 2 := by simp (decide := true) only [u2_c]; exact h5
  have pm : ∀ b, decide (0 ≤ SW d n w 2 ∧ (κ = 2 ∨ sc d (SW d n w 2).toNatClampNeg ≤ 4) ∧ tot d (nI κ) n + bts (sc d (SW d n w 2).toNatClampNeg) ≤ (if κ = 2 then 6 else 2)) = b → i01 (bI b) ∧ Φ (bI b) (st1 hm 6 n (SW d n w 2) (if b = true then 3 else 2)) hl := fun b hb => h b _ (by
    unfold CKt; rw [hb]; exact Po_st 6 (by omega) (by omega) hR)
  have no : ¬ (0 ≤ SW d n w 2 ∧ (κ = 2 ∨ sc d (SW d n w 2).toNatClampNeg ≤ 4) ∧ tot d (nI κ) n + bts (sc d (SW d n w 2).toNatClampNeg) ≤ (if κ = 2 then 6 else 2)) → wbM_readState_62 (u2 hm 6 n (SW d n w 2)) hl Φ := fun z => by
    unfold wbM_readState_62
    exact on_0 g5 (pm false (decide_eq_false z))
  refine ⟨hv, br_c (fun z => no (fun y => ?_)) (fun z => ?_)⟩
  · rw [← i32_nlt] at y; exact y.1 z
  · obtain ⟨s, hs, es, e5, ec, ev⟩ := swf hW w 2 (nlt0 z)
    have hr := sc_r hW hs e5
    have hb7 := bts_7 hr.2.1
    have r33 : (κ = 2 ∨ sc d s ≤ 4) → wbM_readState_33 (nI κ) (nI s) (u2 hm 6 n (SW d n w 2)) hl Φ := fun q => by
      unfold wbM_readState_33
      refine pM_total hW hR1 (nI κ) hno ?_
      rw [pM_bits hW hR1 s hs e5, nI_add]
      unfold wbM_readState_55
      refine pk_eq κ 2 (fun k2 => ?_) (fun k2 => ?_)
      · refine pk_lt 6 (tot d (nI κ) n + bts (sc d s)) (fun x => no (fun y => ?_)) (fun x => on_1 g5 (pm true (decide_eq_true ⟨nlt0 z, Or.inl k2, ?_⟩)))
        · rw [ec, if_pos k2] at y; omega
        · rw [ec, if_pos k2]; exact x
      · refine pk_lt 2 (tot d (nI κ) n + bts (sc d s)) (fun x => no (fun y => ?_)) (fun x => on_1 g5 (pm true (decide_eq_true ⟨nlt0 z, Or.inr (by rw [ec]; omega), ?_⟩)))
        · rw [ec, if_neg k2] at y; omega
        · rw [ec, if_neg k2]; exact x
    refine pk_eq κ 2 (fun k2 => ?_) (fun k2 => ?_)
    · have := r33 (Or.inl k2)
      rw [← es] at this; exact this
    · have eqs : wpM_isBits (SW d n w 2) (u2 hm 6 n (SW d n w 2)) hl = wpM_isBits (nI s) (u2 hm 6 n (SW d n w 2)) hl := by rw [← es]
      rw [eqs, pM_isBits hW hR1 s hs e5]
      refine br_c (fun y => no (fun x => ?_)) (fun y => ?_)
      · rw [bI_0, decide_eq_false_iff_not] at y; rw [ec] at x; exact y (x.2.1.resolve_left k2)
      · rw [bI_ne, decide_eq_true_eq] at y
        have := r33 (Or.inr y)
        rw [← es] at this; exact this
