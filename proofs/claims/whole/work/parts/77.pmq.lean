theorem Po_m {d : HI} {n w : Nat} {hm hm' : HI} {L : List Bool} {j : Nat} {f f' : Nat → Int32} {b : Bool} (h : Po d n w hm L j f b hm') (e : ∀ c, 4 ≤ c → c ≤ 16 → f c = f' c) : Po d n w hm L j f' b hm' :=
  ⟨h.1, h.2.1, h.2.2.1, h.2.2.2.1, fun q c h1 h2 => (h.2.2.2.2 q c h1 h2).trans (e c h1 h2)⟩
theorem f2_m {f f' : Nat → Int32} (ca ct : Nat) (x t : Int32) (e : ∀ c, 4 ≤ c → c ≤ 16 → f c = f' c) : ∀ c, 4 ≤ c → c ≤ 16 → f2 f ca ct x t c = f2 f' ca ct x t c := by
  intro c h1 h2; unfold f2; rw [e c h1 h2]
theorem rd_m (hm : HI) (ca ct n : Nat) (x t : Int32) (j : Nat) : ∀ c, 4 ≤ c → c ≤ 16 → rdS hm ca ct n x t j c n = f2 (fun c => hm c n) ca ct x t c := fun c h _ => rdS_n _ _ _ _ _ _ _ _ h
/-- a word that was read as a number -/
def st1 (hm : HI) (ca n : Nat) (x : Int32) (j : Nat) : HI := u2 (u2 hm ca n x) 0 5 (nI j)
def f1 (f : Nat → Int32) (ca : Nat) (x : Int32) : Nat → Int32 := fun c => if c = ca then x else f c
theorem f1_m {f f' : Nat → Int32} (ca : Nat) (x : Int32) (e : ∀ c, 4 ≤ c → c ≤ 16 → f c = f' c) : ∀ c, 4 ≤ c → c ≤ 16 → f1 f ca x c = f1 f' ca x c := by
  intro c h1 h2; unfold f1; rw [e c h1 h2]
theorem RC_st {d hm : HI} {n w : Nat} (h : RC d hm n w) (ca : Nat) (x : Int32) (j : Nat) (ha : 4 ≤ ca) : RC d (st1 hm ca n x j) n w :=
  RC_s (RC_l h ca n _ ha (Nat.le_refl _)) 5 _ (by decide) (by decide)
theorem Fm_st (hm : HI) (ca n : Nat) (x : Int32) (j : Nat) (h1 : 4 ≤ ca) (h2 : ca ≤ 16) : Fm hm (st1 hm ca n x j) := Fm_t (Fm_c _ _ _ _ h1 h2) (Fm_5 _ _)
theorem st1_5 (hm : HI) (ca n : Nat) (x : Int32) (j : Nat) : st1 hm ca n x j 0 5 = nI j := u2_s _ _ _ _
theorem st_m (hm : HI) (ca n : Nat) (x : Int32) (j : Nat) : ∀ c, 4 ≤ c → c ≤ 16 → st1 hm ca n x j c n = f1 (fun c => hm c n) ca x c := by
  intro c h1 h2
  unfold st1 f1
  rw [u2_c _ _ _ _ (by omega)]
  by_cases e : c = ca
  · subst e; rw [u2_s, if_pos rfl]
  · rw [u2_c _ _ _ _ e, if_neg e]
theorem m5_m (hm : HI) (n : Nat) (x : Int32) : ∀ c, 4 ≤ c → c ≤ 16 → u2 hm 0 5 x c n = hm c n := fun c h1 h2 => u2_c _ _ _ _ (by omega)
theorem Po_st {d : HI} {n w : Nat} {hm : HI} {j : Nat} {b : Bool} {x : Int32} (ca : Nat) (h1 : 4 ≤ ca) (h2 : ca ≤ 16) (hR : RC d hm n w) : Po d n w hm [b] j (f1 (fun c => hm c n) ca x) b (st1 hm ca n x (if b = true then j + 1 else j)) :=
  Po_1 (RC_st hR _ _ _ h1) (Fm_st _ _ _ _ _ h1 h2) (st1_5 _ _ _ _ _) (fun _ => st_m _ _ _ _ _)
theorem Po_5 {d : HI} {n w : Nat} {hm : HI} {j : Nat} {b : Bool} (hR : RC d hm n w) : Po d n w hm [b] j (fun c => hm c n) b (u2 hm 0 5 (nI (if b = true then j + 1 else j))) :=
  Po_1 (RC_s hR 5 _ (by decide) (by decide)) (Fm_5 _ _) (u2_s _ _ _ _) (fun _ c h1 h2 => m5_m _ _ _ c h1 h2)
theorem on_0 {hm : HI} {hl : HL} {Φ : Int32 → HI → HL → Prop} {j : Nat} (h5 : hm 0 5 = nI j) (h : Φ 0 (u2 hm 0 5 (nI j)) hl) : wpM_on 0 hm hl Φ := by
  have := pM_on false hm hl Φ j h5
  rw [bI_f] at this; rw [this]; exact h
theorem on_1 {hm : HI} {hl : HL} {Φ : Int32 → HI → HL → Prop} {j : Nat} (h5 : hm 0 5 = nI j) (h : Φ 1 (u2 hm 0 5 (nI (j + 1))) hl) : wpM_on 1 hm hl Φ := by
  have := pM_on true hm hl Φ j h5
  rw [bI_t] at this; rw [this]; exact h
/-- slice -/
theorem pM_readSlice {d hm : HI} {n w : Nat} {hl : HL} {Φ : Int32 → HI → HL → Prop} (hT : TXw d w) (hW : WL d n) (hR : RC d hm n w) (h5 : hm 0 5 = nI 3) (s : Nat) (hs : s < n) (e5 : d 5 s = 0) (h6 : hm 6 n = nI s) (hS : sc d s ≤ 4)
    (h : ∀ b hm', Po d n w hm [decide (0 ≤ NW d n w 3 ∧ ns d (NW d n w 3) ≤ 4), decide (0 ≤ NU d w 4 ∧ NU d w 4 < nI (ns d (NW d n w 3))), decide (0 ≤ NU d w 5 ∧ NU d w 4 - NU d w 5 + 1 = nI (sc d s))] 3 (f1 (f1 (f2 (fun c => hm c n) 7 10 (NW d n w 3) (bI (TN d w 3))) 13 (NU d w 4)) 14 (NU d w 5)) b hm' → Φ (bI b) hm' hl) : wpM_readSlice hm hl Φ := by
  have hn := hW.1
  unfold wpM_readSlice wbM_readSlice_0
  have hv : vp_in (nI n) 21 := vp_in_nI (by omega) (by omega)
  have hc : (nI n).toNatClampNeg = n := nI_clamp (by omega)
  refine pM_bitsA hT hW hR 3 (by omega) h5 0 (by omega) (decide (0 ≤ NW d n w 3 ∧ ns d (NW d n w 3) ≤ 4)) (by simp) ?_
  by_cases q : 0 ≤ NW d n w 3 ∧ ns d (NW d n w 3) ≤ 4
  · simp only [decide_eq_true q] at h
    rw [decide_eq_true q]
    have hR1 := RC_rd hR 7 10 (NW d n w 3) (bI (TN d w 3)) 4 (by omega) (by omega)
    refine br_f (by decide) ?_
    rw [if_pos rfl, rdS_5]
    refine pM_number hT hR1 4 (by omega) ?_
    rw [hR1.1, hc]
    refine ⟨hv, ?_⟩
    rcases NW_full hW w 3 with e | ⟨k, s', hk, hs', e, hno, e6, e5', ht, en⟩
    · rw [e] at q; exact absurd q.1 (by decide)
    have a7 : u2 (rdS hm 7 10 n (NW d n w 3) (bI (TN d w 3)) 4) 13 n (NU d w 4) 7 n = NW d n w 3 := by
      rw [u2_c _ _ _ _ (by decide)]; unfold rdS
      simp (decide := true) only [u2_s, u2_c, u2_j]
    have a6 : u2 (rdS hm 7 10 n (NW d n w 3) (bI (TN d w 3)) 4) 13 n (NU d w 4) 6 k = nI s' := by
      rw [u2_c _ _ _ _ (by decide), hR1.2.2.2.2.2 6 (by omega) (by omega) k hk, e6]
    have a0 : ∀ x, u2 (rdS hm 7 10 n (NW d n w 3) (bI (TN d w 3)) 4) 13 n x 0 6 = nI n := fun x => by
      rw [u2_c _ _ _ _ (by decide)]; exact hR1.1
    have a16 : u2 (rdS hm 7 10 n (NW d n w 3) (bI (TN d w 3)) 4) 13 n (NU d w 4) 16 s' = nI (ns d (NW d n w 3)) := by
      rw [u2_c _ _ _ _ (by decide), hR1.2.2.2.2.2 16 (by omega) (by omega) s' hs', sc_w hW hs' e5', ← en]
      unfold wdt; rw [if_pos q.2]
    have hf5 : ∀ x, u2 (rdS hm 7 10 n (NW d n w 3) (bI (TN d w 3)) 4) 13 n x 0 5 = nI 4 := fun x => by
      rw [u2_c _ _ _ _ (by decide)]; exact rdS_5 _ _ _ _ _ _ _
    have no : decide (0 ≤ NU d w 4 ∧ NU d w 4 < nI (ns d (NW d n w 3))) = false → wbM_readSlice_62 0 (u2 (rdS hm 7 10 n (NW d n w 3) (bI (TN d w 3)) 4) 13 n (NU d w 4)) hl Φ := fun z => by
      unfold wbM_readSlice_62
      rw [z] at h
      refine on_0 (hf5 _) (br_t rfl ⟨i01_0, h false _ (Po_c (Fm_rd _ 7 10 n (NW d n w 3) (bI (TN d w 3)) 4 (by omega) (by omega) (by omega) (by omega)) (Po_f (RC_st hR1 13 _ 4 (by omega)) (Fm_st _ _ _ _ _ (by omega) (by omega)) (st1_5 _ _ _ _ _)))⟩)
    refine br_c (fun z => ?_) (fun z => ?_)
    · unfold wbM_readSlice_61
      refine no (decide_eq_false (fun y => ?_))
      rw [← i32_nlt] at y; exact y.1 z
    · have z0 : 0 ≤ NU d w 4 := by rw [← i32_nlt]; exact z
      have ec : (NW d n w 3).toNatClampNeg = k := by rw [e]; exact nI_clamp (by omega)
      have evN : vp_in (NW d n w 3) 21 := by rw [e]; exact vp_in_nI (by omega) (by omega)
      rw [a0, hc, a7, ec, a6, nI_clamp (show s' < 2 ^ 31 by omega), a16]
      refine ⟨hv, evN, vp_in_nI (by omega) (by omega), br_c (fun y => ?_) (fun y => ?_)⟩
      · unfold wbM_readSlice_61
        refine no (decide_eq_false (fun x => ?_))
        rw [← i32_nle] at x; exact x.2 y
      · rw [i32_nle] at y
        rw [decide_eq_true (And.intro z0 y)] at h
        unfold wbM_readSlice_62
        refine on_1 (hf5 _) (br_f (by decide) ?_)
        have hR2 : RC d (st1 (rdS hm 7 10 n (NW d n w 3) (bI (TN d w 3)) 4) 13 n (NU d w 4) 5) n w := RC_st hR1 13 _ 5 (by omega)
        have pp : ∀ b hm', Po d n w (st1 (rdS hm 7 10 n (NW d n w 3) (bI (TN d w 3)) 4) 13 n (NU d w 4) 5) [decide (0 ≤ NU d w 5 ∧ NU d w 4 - NU d w 5 + 1 = nI (sc d s))] 5 (f1 (f1 (f2 (fun c => hm c n) 7 10 (NW d n w 3) (bI (TN d w 3))) 13 (NU d w 4)) 14 (NU d w 5)) b hm' → Φ (bI b) hm' hl := fun b hm' hp => h b hm' (Po_c (Fm_rd _ 7 10 n (NW d n w 3) (bI (TN d w 3)) 4 (by omega) (by omega) (by omega) (by omega)) (Po_c (Fm_st _ _ _ _ _ (by omega) (by omega)) hp))
        have pm : ∀ b, decide (0 ≤ NU d w 5 ∧ NU d w 4 - NU d w 5 + 1 = nI (sc d s)) = b → Φ (bI b) (st1 (st1 (rdS hm 7 10 n (NW d n w 3) (bI (TN d w 3)) 4) 13 n (NU d w 4) 5) 14 n (NU d w 5) (if b = true then 6 else 5)) hl := fun b hb => pp b _ (by
          rw [hb]
          exact Po_m (Po_st 14 (by omega) (by omega) hR2) (f1_m _ _ (fun c h1 h2 => (st_m _ _ _ _ _ c h1 h2).trans (f1_m _ _ (rd_m _ _ _ _ _ _ _) c h1 h2))))
        have e5n : u2 (u2 (rdS hm 7 10 n (NW d n w 3) (bI (TN d w 3)) 4) 13 n (NU d w 4)) 0 5 (nI (4 + 1)) = st1 (rdS hm 7 10 n (NW d n w 3) (bI (TN d w 3)) 4) 13 n (NU d w 4) 5 := rfl
        rw [e5n, st1_5]
        refine pM_number hT hR2 5 (by omega) ?_
        rw [hR2.1, hc]
        have b0 : u2 (st1 (rdS hm 7 10 n (NW d n w 3) (bI (TN d w 3)) 4) 13 n (NU d w 4) 5) 14 n (NU d w 5) 0 6 = nI n := by
          rw [u2_c _ _ _ _ (by decide)]; exact hR2.1
        have b5 : u2 (st1 (rdS hm 7 10 n (NW d n w 3) (bI (TN d w 3)) 4) 13 n (NU d w 4) 5) 14 n (NU d w 5) 0 5 = nI 5 := by
          rw [u2_c _ _ _ _ (by decide)]; exact st1_5 _ _ _ _ _
        have b13 : u2 (st1 (rdS hm 7 10 n (NW d n w 3) (bI (TN d w 3)) 4) 13 n (NU d w 4) 5) 14 n (NU d w 5) 13 n = NU d w 4 := by
          rw [u2_c _ _ _ _ (by decide), st_m _ _ _ _ _ 13 (by omega) (by omega)]; simp [f1]
        have b6 : u2 (st1 (rdS hm 7 10 n (NW d n w 3) (bI (TN d w 3)) 4) 13 n (NU d w 4) 5) 14 n (NU d w 5) 6 n = nI s := by
          rw [u2_c _ _ _ _ (by decide), st_m _ _ _ _ _ 6 (by omega) (by omega)]
          simp only [f1]
          rw [if_neg (by decide), rd_m _ _ _ _ _ _ _ 6 (by omega) (by omega)]
          simp [f2, h6]
        have b16 : u2 (st1 (rdS hm 7 10 n (NW d n w 3) (bI (TN d w 3)) 4) 13 n (NU d w 4) 5) 14 n (NU d w 5) 16 s = nI (sc d s) := by
          rw [u2_c _ _ _ _ (by decide), hR2.2.2.2.2.2 16 (by omega) (by omega) s hs, sc_w hW hs e5]
          unfold wdt; rw [if_pos hS]
        refine ⟨hv, br_c (fun y => ?_) (fun y => ?_)⟩
        · unfold wbM_readSlice_128
          refine on_0 b5 ⟨i01_0, pm false (decide_eq_false (fun x => ?_))⟩
          rw [← i32_nlt] at x; exact x.1 y
        · have y0 : 0 ≤ NU d w 5 := by rw [← i32_nlt]; exact y
          rw [b0, hc, b13, b6, nI_clamp (show s < 2 ^ 31 by omega), b16]
          refine ⟨hv, hv, vp_in_nI (by omega) (by omega), br_c (fun x => ?_) (fun x => ?_)⟩
          · exact on_1 b5 ⟨i01_1, pm true (decide_eq_true ⟨y0, x⟩)⟩
          · unfold wbM_readSlice_128
            exact on_0 b5 ⟨i01_0, pm false (decide_eq_false (fun r => x r.2))⟩
  · simp only [decide_eq_false q] at h
    rw [decide_eq_false q]
    exact br_t rfl ⟨i01_0, h false _ (Po_f (RC_rd hR _ _ _ _ _ (by omega) (by omega)) (Fm_rd _ _ _ _ _ _ _ (by omega) (by omega) (by omega) (by omega)) (rdS_5 _ _ _ _ _ _ _))⟩
