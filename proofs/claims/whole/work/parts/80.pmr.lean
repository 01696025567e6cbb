/-! M: the words behind the sort, by kind -/
noncomputable def AS (d : HI) (n w j c : Nat) : Bool := decide (0 ≤ NW d n w j ∧ ns d (NW d n w j) = c)
noncomputable def AB (d : HI) (n w j : Nat) : Bool := decide (0 ≤ NW d n w j ∧ ns d (NW d n w j) ≤ 4)
noncomputable def CKr (d : HI) (n w κ s : Nat) : List Bool :=
  if κ = 3 then [decide (0 ≤ NU d w 3 ∧ NU d w 3 < nI (2 ^ sc d s))]
  else if κ ≤ 5 then [AS d n w 3 (sc d s)]
  else if κ = 6 then [AB d n w 3]
  else if κ ≤ 16 then [AS d n w 3 (sc d s), AS d n w 4 (sc d s)]
  else if κ = 17 then [decide (0 ≤ NW d n w 3), AS d n w 4 (ns d (NW d n w 3))]
  else if κ ≤ 19 then [AB d n w 3, AS d n w 4 (ns d (NW d n w 3))]
  else if κ = 20 then [decide (0 ≤ NW d n w 3 ∧ ns d (NW d n w 3) ≤ 4 ∧ ns d (NW d n w 3) < sc d s), decide (0 ≤ NW d n w 4 ∧ ns d (NW d n w 4) ≤ 4 ∧ ns d (NW d n w 4) = sc d s - ns d (NW d n w 3))]
  else if κ = 21 then [decide (0 ≤ NW d n w 3 ∧ ns d (NW d n w 3) ≤ 4), decide (0 ≤ NU d w 4 ∧ NU d w 4 < nI (ns d (NW d n w 3))), decide (0 ≤ NU d w 5 ∧ NU d w 4 - NU d w 5 + 1 = nI (sc d s))]
  else if κ ≤ 23 then [decide (0 ≤ NW d n w 3 ∧ ns d (NW d n w 3) ≤ 4), decide (0 ≤ NU d w 4 ∧ nI (ns d (NW d n w 3)) + NU d w 4 = nI (sc d s))]
  else if κ = 24 then [decide (0 ≤ NW d n w 3 ∧ ns d (NW d n w 3) = 1), decide (0 ≤ NW d n w 4 ∧ ns d (NW d n w 4) = sc d s), decide (0 ≤ NW d n w 5 ∧ ns d (NW d n w 5) = sc d s)]
  else decide (0 ≤ NW d n w 3 ∧ ¬ ns d (NW d n w 3) ≤ 4 ∧ wdt (ns d (NW d n w 3)) = wdt (sc d s)) :: decide (0 ≤ NW d n w 4 ∧ ns d (NW d n w 4) ≤ 4 ∧ ns d (NW d n w 4) = 1) :: (if κ = 25 then [] else [decide (0 ≤ NW d n w 5 ∧ ns d (NW d n w 5) ≤ 4 ∧ ns d (NW d n w 5) = wdt (sc d s))])
noncomputable def fA (d : HI) (n w j : Nat) (f : Nat → Int32) : Nat → Int32 := f2 f 7 10 (NW d n w j) (bI (TN d w j))
noncomputable def fB (d : HI) (n w j : Nat) (f : Nat → Int32) : Nat → Int32 := f2 f 8 11 (NW d n w j) (bI (TN d w j))
noncomputable def fC (d : HI) (n w j : Nat) (f : Nat → Int32) : Nat → Int32 := f2 f 9 12 (NW d n w j) (bI (TN d w j))
noncomputable def FNr (d : HI) (n w κ : Nat) (f : Nat → Int32) : Nat → Int32 :=
  if κ = 3 then f1 f 13 (NU d w 3)
  else if κ ≤ 6 then fA d n w 3 f
  else if κ ≤ 20 then fB d n w 4 (fA d n w 3 f)
  else if κ = 21 then f1 (f1 (fA d n w 3 f) 13 (NU d w 4)) 14 (NU d w 5)
  else if κ ≤ 23 then fA d n w 3 f
  else if κ = 24 then fB d n w 5 (fA d n w 4 (fC d n w 3 f))
  else if κ = 25 then fB d n w 4 (fA d n w 3 f)
  else fC d n w 5 (fB d n w 4 (fA d n w 3 f))
theorem sh_w : ∀ v : Nat, 1 ≤ v → v ≤ 3 → (1 : Int32) <<< (nI v &&& 31) = nI (2 ^ v) := by
  intro v h1 h2
  have : v = 1 ∨ v = 2 ∨ v = 3 := by omega
  rcases this with e | e | e <;> subst e <;> decide
/-- two nodes, one behind the other -/
theorem two_AB {d hm : HI} {n w : Nat} {hl : HL} {Φ : Int32 → HI → HL → Prop} (hT : TXw d w) (hW : WL d n) (hR : RC d hm n w) (b1 b2 : Bool) (s : Nat) (hs : b1 = true → s < n ∧ d 5 s = 0) (h1 : b1 = true → b2 = AS d n w 4 (sc d s))
    (h : ∀ b hm', Po d n w hm [b1, b2] 3 (fB d n w 4 (fA d n w 3 (fun c => hm c n))) b hm' → Φ (bI b) hm' hl) (Ψ : Prop) (hΨ : (b1 = false → i01 0 ∧ Φ 0 (rdS hm 7 10 n (NW d n w 3) (bI (TN d w 3)) 3) hl) → (b1 = true → wpM_readB (nI s) (rdS hm 7 10 n (NW d n w 3) (bI (TN d w 3)) 4) hl (fun r6 hi7 hl8 => (r6 = 0 → i01 0 ∧ Φ 0 hi7 hl8) ∧ (¬ r6 = 0 → i01 1 ∧ Φ 1 hi7 hl8))) → Ψ) : Ψ := by
  refine hΨ (fun q => ?_) (fun q => ?_)
  · subst q
    exact ⟨i01_0, h false _ (Po_f (RC_rd hR _ _ _ _ _ (by omega) (by omega)) (Fm_rd _ _ _ _ _ _ _ (by omega) (by omega) (by omega) (by omega)) (rdS_5 _ _ _ _ _ _ _))⟩
  · have hR1 := RC_rd hR 7 10 (NW d n w 3) (bI (TN d w 3)) 4 (by omega) (by omega)
    have F1 := Fm_rd hm 7 10 n (NW d n w 3) (bI (TN d w 3)) 4 (by omega) (by omega) (by omega) (by omega)
    refine pM_readB hT hW hR1 4 (by omega) (rdS_5 _ _ _ _ _ _ _) s (hs q) b2 (h1 q) ?_
    subst q
    have hh := h _ _ (Po_c F1 (Po_m (Po_rd (b := b2) (j := 4) (x := NW d n w 4) (t := bI (TN d w 4)) 8 11 (by omega) (by omega) (by omega) (by omega) hR1) (f2_m _ _ _ _ (rd_m _ _ _ _ _ _ _))))
    refine br_c (fun y => ?_) (fun y => ?_)
    · rw [bI_0] at y; rw [y] at hh ⊢; exact ⟨i01_0, hh⟩
    · rw [bI_ne] at y; rw [y] at hh ⊢; exact ⟨i01_1, hh⟩
theorem pM_readRest {d hm : HI} {n w : Nat} {hl : HL} {Φ : Int32 → HI → HL → Prop} (hT : TXw d w) (hW : WL d n) (hR : RC d hm n w) (h5 : hm 0 5 = nI 3) (s : Nat) (hs : s < n) (e5 : d 5 s = 0) (h6 : hm 6 n = nI s) (κ : Nat) (hκ : 3 ≤ κ ∧ κ ≤ 26) (hS : κ ≠ 24 → κ ≠ 26 → sc d s ≤ 4)
    (h : ∀ b hm', Po d n w hm (CKr d n w κ s) 3 (FNr d n w κ (fun c => hm c n)) b hm' → i01 (bI b) ∧ Φ (bI b) hm' hl) : wpM_readRest (nI κ) (nI s) hm hl Φ := by
  have hn := hW.1
  have hv : vp_in (nI n) 21 := vp_in_nI (by omega) (by omega)
  have hvs : vp_in (nI s) 21 := vp_in_nI (by omega) (by omega)
  have hc : (nI n).toNatClampNeg = n := nI_clamp (by omega)
  have hcs : (nI s).toNatClampNeg = s := nI_clamp (by omega)
  have hrs := sc_r hW hs e5
  have hR1 : ∀ j, RC d (rdS hm 7 10 n (NW d n w 3) (bI (TN d w 3)) j) n w := fun j => RC_rd hR _ _ _ _ _ (by omega) (by omega)
  unfold wpM_readRest wbM_readRest_0
  refine pk_eq κ 3 (fun k3 => ?_) (fun k3 => ?_)
  · subst k3
    rw [h5]
    refine pM_number hT hR 3 (by omega) ?_
    rw [hR.1, hc]
    have hS' := hS (by omega) (by omega)
    simp only [CKr, FNr, if_true] at h
    have g5 : u2 hm 13 n (NU d w 3) 0 5 = nI 3 := by rw [u2_c _ _ _ _ (by decide)]; exact h5
    have pm : ∀ b, decide (0 ≤ NU d w 3 ∧ NU d w 3 < nI (2 ^ sc d s)) = b → i01 (bI b) ∧ Φ (bI b) (st1 hm 13 n (NU d w 3) (if b = true then 4 else 3)) hl := fun b hb => h b _ (by
      rw [hb]; exact Po_st 13 (by omega) (by omega) hR)
    unfold wbM_readRest_45
    refine ⟨hv, br_c (fun z => ?_) (fun z => ⟨hvs, ?_⟩)⟩
    · refine on_0 g5 (pm false (decide_eq_false (fun y => ?_)))
      rw [← i32_nlt] at y; exact y.1 z
    · rw [hcs, u2_c _ _ _ _ (by decide), hR.2.2.2.2.2 16 (by omega) (by omega) s hs, sc_w hW hs e5, sh_w _ hrs.2.2.2.1 hrs.2.2.2.2]
      have w2 : wdt (sc d s) = sc d s := by unfold wdt; rw [if_pos hS']
      rw [w2]
      refine br_c (fun y => ?_) (fun y => ?_)
      · refine on_0 g5 (pm false (decide_eq_false (fun x => ?_)))
        rw [← i32_nle] at x; exact x.2 y
      · rw [i32_nle] at y
        exact on_1 g5 (pm true (decide_eq_true ⟨nlt0 z, y⟩))
  have r60 : (κ = 4 ∨ κ = 5) → wbM_readRest_60 (nI s) hm hl Φ := fun k45 => by
    unfold wbM_readRest_60
    have e1 : CKr d n w κ s = [AS d n w 3 (sc d s)] := by
      unfold CKr; rw [if_neg k3, if_pos (by omega)]
    have e2 : FNr d n w κ (fun c => hm c n) = fA d n w 3 (fun c => hm c n) := by
      unfold FNr; rw [if_neg k3, if_pos (by omega)]
    rw [e1, e2] at h
    refine pM_readA hT hW hR 3 (by omega) h5 false s (Or.inr ⟨hs, e5⟩) (AS d n w 3 (sc d s)) (by simp [AS]) ?_
    exact h _ _ (Po_rd 7 10 (by omega) (by omega) (by omega) (by omega) hR)
  refine pk_eq κ 4 (fun k4 => r60 (Or.inl k4)) (fun k4 => pk_eq κ 5 (fun k5 => r60 (Or.inr k5)) (fun k5 => pk_eq κ 6 (fun k6 => ?_) (fun k6 => ?_)))
  · subst k6
    simp only [CKr, FNr, show ¬ (6 = 3) by decide, show ¬ (6 ≤ 5) by decide, show 6 ≤ 6 by decide, if_true, if_false] at h
    refine pM_bitsA hT hW hR 3 (by omega) h5 0 (by omega) (AB d n w 3) (by simp [AB]) ?_
    exact h _ _ (Po_rd 7 10 (by omega) (by omega) (by omega) (by omega) hR)
  · refine pk_lt 16 κ (fun k16 => ?_) (fun k16 => ?_)
    · refine pk_eq κ 17 (fun k17 => ?_) (fun k17 => ?_)
      · subst k17
        simp only [CKr, FNr, show ¬ (17 = 3) by decide, show ¬ (17 ≤ 5) by decide, show ¬ 17 = 6 by decide, show ¬ 17 ≤ 6 by decide, show ¬ 17 ≤ 16 by decide, show 17 ≤ 20 by decide, if_true, if_false] at h
        refine pM_readA hT hW hR 3 (by omega) h5 true s (Or.inl rfl) (decide (0 ≤ NW d n w 3)) (by simp) ?_
        by_cases q : 0 ≤ NW d n w 3
        · obtain ⟨k, s', hk, hs', e, hno, e5', ec, ev, ec2, ev2, en, e6, hq⟩ := ndf hW w 3 q
          rw [decide_eq_true q] at h ⊢
          refine two_AB hT hW hR true _ s' (fun _ => ⟨hs', e5'⟩) (fun _ => by rw [← en]) (fun b hm' hp => (h b hm' hp).2) _ (fun _ ht => ?_)
          refine br_f (by decide) ?_
          rw [if_pos rfl, (hR1 4).1, hc, rdS_ca _ _ _ _ _ _ _ (by omega) (by omega), ec, (hq _ (hR1 4)).1]
          exact ⟨hv, ev, ht rfl⟩
        · rw [decide_eq_false q] at h ⊢
          refine two_AB hT hW hR false _ 0 (fun z => absurd z (by decide)) (fun z => absurd z (by decide)) (fun b hm' hp => (h b hm' hp).2) _ (fun ht _ => ?_)
          exact br_t rfl (ht rfl)
      · have r162 : (κ = 18 ∨ κ = 19) → wbM_readRest_162 hm hl Φ := fun k89 => by
          unfold wbM_readRest_162 wbM_readRest_195
          have e1 : CKr d n w κ s = [AB d n w 3, AS d n w 4 (ns d (NW d n w 3))] := by
            unfold CKr; rw [if_neg k3, if_neg (by omega), if_neg (by omega), if_neg (by omega), if_neg (by omega), if_pos (by omega)]
          have e2 : FNr d n w κ (fun c => hm c n) = fB d n w 4 (fA d n w 3 (fun c => hm c n)) := by
            unfold FNr; rw [if_neg k3, if_neg (by omega), if_pos (by omega)]
          rw [e1, e2] at h
          refine pM_bitsA hT hW hR 3 (by omega) h5 0 (by omega) (AB d n w 3) (by simp [AB]) ?_
          by_cases q : AB d n w 3 = true
          · have q' := q
            unfold AB at q'
            rw [decide_eq_true_eq] at q'
            obtain ⟨k, s', hk, hs', e, hno, e5', ec, ev, ec2, ev2, en, e6, hq⟩ := ndf hW w 3 q'.1
            rw [q] at h ⊢
            refine two_AB hT hW hR true _ s' (fun _ => ⟨hs', e5'⟩) (fun _ => by rw [← en]) (fun b hm' hp => (h b hm' hp).2) _ (fun _ ht => ?_)
            refine br_f (by decide) ?_
            rw [if_pos rfl, (hR1 4).1, hc, rdS_ca _ _ _ _ _ _ _ (by omega) (by omega), ec, (hq _ (hR1 4)).1]
            exact ⟨hv, ev, ht rfl⟩
          · have q' : AB d n w 3 = false := by cases z : AB d n w 3; rfl; exact absurd z q
            rw [q'] at h ⊢
            refine two_AB hT hW hR false _ 0 (fun z => absurd z (by decide)) (fun z => absurd z (by decide)) (fun b hm' hp => (h b hm' hp).2) _ (fun ht _ => ?_)
            exact br_t rfl (ht rfl)
        refine pk_eq κ 18 (fun k => r162 (Or.inl k)) (fun k18 => pk_eq κ 19 (fun k => r162 (Or.inr k)) (fun k19 => ?_))
        refine pk_eq κ 20 (fun k20 => ?_) (fun k20 => pk_eq κ 21 (fun k21 => ?_) (fun k21 => ?_))
        · subst k20
          have e1 : CKr d n w 20 s = [decide (0 ≤ NW d n w 3 ∧ ns d (NW d n w 3) ≤ 4 ∧ ns d (NW d n w 3) < sc d s), decide (0 ≤ NW d n w 4 ∧ ns d (NW d n w 4) ≤ 4 ∧ ns d (NW d n w 4) = sc d s - ns d (NW d n w 3))] := by
            unfold CKr; rw [if_neg (by omega), if_neg (by omega), if_neg (by omega), if_neg (by omega), if_neg (by omega), if_neg (by omega), if_pos rfl]
          have e2 : FNr d n w 20 (fun c => hm c n) = fB d n w 4 (fA d n w 3 (fun c => hm c n)) := by
            unfold FNr; rw [if_neg (by omega), if_neg (by omega), if_pos (by omega)]
          rw [e1, e2] at h
          exact pM_readConcat hT hW hR h5 s hs e5 h6 (hS (by omega) (by omega)) (fun b hm' hp => h b hm' hp)
        · subst k21
          have e1 : CKr d n w 21 s = [decide (0 ≤ NW d n w 3 ∧ ns d (NW d n w 3) ≤ 4), decide (0 ≤ NU d w 4 ∧ NU d w 4 < nI (ns d (NW d n w 3))), decide (0 ≤ NU d w 5 ∧ NU d w 4 - NU d w 5 + 1 = nI (sc d s))] := by
            unfold CKr; rw [if_neg (by omega), if_neg (by omega), if_neg (by omega), if_neg (by omega), if_neg (by omega), if_neg (by omega), if_neg (by omega), if_pos rfl]
          have e2 : FNr d n w 21 (fun c => hm c n) = f1 (f1 (fA d n w 3 (fun c => hm c n)) 13 (NU d w 4)) 14 (NU d w 5) := by
            unfold FNr; rw [if_neg (by omega), if_neg (by omega), if_neg (by omega), if_pos rfl]
          rw [e1, e2] at h
          exact pM_readSlice hT hW hR h5 s hs e5 h6 (hS (by omega) (by omega)) (fun b hm' hp => h b hm' hp)
        · have rex : (κ = 22 ∨ κ = 23) → wpM_readExtended hm hl (fun r1 hi2 hl3 => i01 r1 ∧ Φ r1 hi2 hl3) := fun k => by
            have e1 : CKr d n w κ s = [decide (0 ≤ NW d n w 3 ∧ ns d (NW d n w 3) ≤ 4), decide (0 ≤ NU d w 4 ∧ nI (ns d (NW d n w 3)) + NU d w 4 = nI (sc d s))] := by
              unfold CKr; rw [if_neg (by omega), if_neg (by omega), if_neg (by omega), if_neg (by omega), if_neg (by omega), if_neg (by omega), if_neg (by omega), if_neg (by omega), if_pos (by omega)]
            have e2 : FNr d n w κ (fun c => hm c n) = fA d n w 3 (fun c => hm c n) := by
              unfold FNr; rw [if_neg (by omega), if_neg (by omega), if_neg (by omega), if_neg (by omega), if_pos (by omega)]
            rw [e1, e2] at h
            exact pM_readExtended hT hW hR h5 s hs e5 h6 (hS (by omega) (by omega)) (fun b hm' hp => h b hm' hp)
          refine pk_eq κ 22 (fun k22 => rex (Or.inl k22)) (fun k22 => pk_eq κ 23 (fun k23 => rex (Or.inr k23)) (fun k23 => pk_eq κ 24 (fun k24 => ?_) (fun k24 => ?_)))
          · subst k24
            have e1 : CKr d n w 24 s = [decide (0 ≤ NW d n w 3 ∧ ns d (NW d n w 3) = 1), decide (0 ≤ NW d n w 4 ∧ ns d (NW d n w 4) = sc d s), decide (0 ≤ NW d n w 5 ∧ ns d (NW d n w 5) = sc d s)] := by
              unfold CKr; rw [if_neg (by omega), if_neg (by omega), if_neg (by omega), if_neg (by omega), if_neg (by omega), if_neg (by omega), if_neg (by omega), if_neg (by omega), if_neg (by omega), if_pos rfl]
            have e2 : FNr d n w 24 (fun c => hm c n) = fB d n w 5 (fA d n w 4 (fC d n w 3 (fun c => hm c n))) := by
              unfold FNr; rw [if_neg (by omega), if_neg (by omega), if_neg (by omega), if_neg (by omega), if_neg (by omega), if_pos rfl]
            rw [e1, e2] at h
            exact pM_readIte hT hW hR h5 s hs e5 (fun b hm' hp => h b hm' hp)
          · have k256 : κ = 25 ∨ κ = 26 := by omega
            have e1 : CKr d n w κ s = decide (0 ≤ NW d n w 3 ∧ ¬ ns d (NW d n w 3) ≤ 4 ∧ wdt (ns d (NW d n w 3)) = wdt (sc d s)) :: decide (0 ≤ NW d n w 4 ∧ ns d (NW d n w 4) ≤ 4 ∧ ns d (NW d n w 4) = 1) :: (if κ = 25 then [] else [decide (0 ≤ NW d n w 5 ∧ ns d (NW d n w 5) ≤ 4 ∧ ns d (NW d n w 5) = wdt (sc d s))]) := by
              unfold CKr; rw [if_neg (by omega), if_neg (by omega), if_neg (by omega), if_neg (by omega), if_neg (by omega), if_neg (by omega), if_neg (by omega), if_neg (by omega), if_neg (by omega), if_neg (by omega)]
            have e2 : FNr d n w κ (fun c => hm c n) = if κ = 25 then fB d n w 4 (fA d n w 3 (fun c => hm c n)) else fC d n w 5 (fB d n w 4 (fA d n w 3 (fun c => hm c n))) := by
              unfold FNr; rw [if_neg (by omega), if_neg (by omega), if_neg (by omega), if_neg (by omega), if_neg (by omega), if_neg (by omega)]
            rw [e1, e2] at h
            exact pM_readPlace hT hW hR h5 s hs e5 κ k256 (fun b hm' hp => h b hm' hp)
    · unfold wbM_readRest_106
      have e1 : CKr d n w κ s = [AS d n w 3 (sc d s), AS d n w 4 (sc d s)] := by
        unfold CKr; rw [if_neg k3, if_neg (by omega), if_neg (by omega), if_pos (by omega)]
      have e2 : FNr d n w κ (fun c => hm c n) = fB d n w 4 (fA d n w 3 (fun c => hm c n)) := by
        unfold FNr; rw [if_neg k3, if_neg (by omega), if_pos (by omega)]
      rw [e1, e2] at h
      refine pM_readA hT hW hR 3 (by omega) h5 false s (Or.inr ⟨hs, e5⟩) (AS d n w 3 (sc d s)) (by simp [AS]) ?_
      refine two_AB hT hW hR (AS d n w 3 (sc d s)) _ s (fun _ => ⟨hs, e5⟩) (fun _ => rfl) (fun b hm' hp => (h b hm' hp).2) _ (fun h1 h2 => ?_)
      refine br_c (fun y => ?_) (fun y => ?_)
      · rw [bI_0] at y; have := h1 y; rw [y, if_neg (by decide)]; exact this
      · rw [bI_ne] at y; have := h2 y; rw [y, if_pos rfl]; exact this
