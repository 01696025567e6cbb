/-! M: a line from its first word on -/
noncomputable def c0K (d : HI) (n w : Nat) : Bool := decide (1 ≤ NU d w 0 ∧ (n = 0 ∨ d 4 (n - 1) < NU d w 0))
noncomputable def c1K (d : HI) (n w : Nat) : Bool := decide (0 ≤ KO d w ∧ ¬ ((12 ≤ KO d w ∧ KO d w ≤ 14) ∧ 2 ≤ hrd d n))
noncomputable def CKA (d : HI) (n w : Nat) : List Bool := c0K d n w :: c1K d n w :: CK d n w (KO d w).toNatClampNeg
noncomputable def FNA (d : HI) (n w : Nat) (f : Nat → Int32) : Nat → Int32 := FN d n w (KO d w).toNatClampNeg (fI (f1 (f1 f 4 (NU d w 0)) 5 (KO d w)))
theorem fI_m {f f' : Nat → Int32} (e : ∀ c, 4 ≤ c → c ≤ 16 → f c = f' c) : ∀ c, 4 ≤ c → c ≤ 16 → fI f c = fI f' c := by
  intro c h1 h2; unfold fI; rw [e c h1 h2]
theorem pM_readLine {d hm : HI} {n w : Nat} {hl : HL} {Φ : Int32 → HI → HL → Prop} (hT : TXw d w) (hW : WL d n) (hA : WA d n) (hR : RC d hm n w)
    (h : ∀ b hm', Po d n w hm (CKA d n w) 0 (FNA d n w (fun c => hm c n)) b hm' → Φ (bI b) hm' hl) : wpM_readLine hm hl Φ := by
  have hn := hW.1
  have hv : vp_in (nI n) 21 := vp_in_nI (by omega) (by omega)
  have hc : (nI n).toNatClampNeg = n := nI_clamp (by omega)
  unfold wpM_readLine wbM_readLine_0
  have hR0 : RC d (u2 hm 0 5 0) n w := RC_s hR 5 _ (by decide) (by decide)
  refine pM_number hT hR0 0 (by omega) ?_
  have f6 : hm 0 6 = nI n := hR.1
  simp (decide := true) only [u2_s, u2_c, u2_j, f6, hc]
  have hR1 : RC d (u2 (u2 hm 0 5 0) 4 n (NU d w 0)) n w := RC_l hR0 4 n _ (by omega) (Nat.le_refl _)
  have F1 : Fm hm (u2 (u2 hm 0 5 0) 4 n (NU d w 0)) := Fm_t (Fm_5 _ _) (Fm_c _ _ _ _ (by omega) (by omega))
  have g5 : u2 (u2 hm 0 5 0) 4 n (NU d w 0) 0 5 = nI 0 := by simp (decide := true) only [u2_c, u2_s, nI_0]
  have m1 : ∀ c, 4 ≤ c → c ≤ 16 → u2 (u2 hm 0 5 0) 4 n (NU d w 0) c n = f1 (fun c => hm c n) 4 (NU d w 0) c := fun c h1 h2 => by
    unfold f1
    by_cases c4 : c = 4
    · subst c4; rw [u2_s, if_pos rfl]
    · rw [u2_c _ _ _ _ c4, if_neg c4, u2_c _ _ _ _ (by omega)]
  have no : c0K d n w = false → wbM_readLine_53 (u2 (u2 hm 0 5 0) 4 n (NU d w 0)) hl Φ := fun q => by
    unfold wbM_readLine_53 wbM_readLine_54
    unfold CKA at h; rw [q] at h
    exact on_0 g5 (br_t rfl ⟨i01_0, h false _ (Po_f (RC_s hR1 5 _ (by decide) (by decide)) (Fm_t F1 (Fm_5 _ _)) (u2_s _ _ _ _))⟩)
  have yes : c0K d n w = true → wbM_readLine_49 (u2 (u2 hm 0 5 0) 4 n (NU d w 0)) hl Φ := fun q => by
    unfold wbM_readLine_49 wbM_readLine_54
    unfold CKA at h; rw [q] at h
    refine on_1 g5 (br_f (by decide) ?_)
    have hR2 : RC d (u2 (u2 (u2 hm 0 5 0) 4 n (NU d w 0)) 0 5 (nI (0 + 1))) n w := RC_s hR1 5 _ (by decide) (by decide)
    refine pM_letters hT hR2 1 (by omega) ?_
    rw [pM_kindOf, hR2.1, hc]
    refine ⟨hv, ?_⟩
    show ∃ fu, wbM_readLine_86 fu (KO d w) 0 0 (u2 (u2 (u2 (u2 hm 0 5 0) 4 n (NU d w 0)) 0 5 (nI (0 + 1))) 5 n (KO d w)) hl Φ
    have hR3 : RC d (u2 (u2 (u2 (u2 hm 0 5 0) 4 n (NU d w 0)) 0 5 (nI (0 + 1))) 5 n (KO d w)) n w := RC_l hR2 5 n _ (by omega) (Nat.le_refl _)
    have g51 : (u2 (u2 (u2 (u2 hm 0 5 0) 4 n (NU d w 0)) 0 5 (nI (0 + 1))) 5 n (KO d w)) 0 5 = nI 1 := by
      simp (decide := true) only [u2_c, u2_s]
    have F3 : Fm hm (u2 (u2 (u2 (u2 hm 0 5 0) 4 n (NU d w 0)) 0 5 (nI (0 + 1))) 5 n (KO d w)) := Fm_t (Fm_t F1 (Fm_5 _ _)) (Fm_c _ _ _ _ (by omega) (by omega))
    have m3 : ∀ c, 4 ≤ c → c ≤ 16 → (u2 (u2 (u2 (u2 hm 0 5 0) 4 n (NU d w 0)) 0 5 (nI (0 + 1))) 5 n (KO d w)) c n = f1 (f1 (fun c => hm c n) 4 (NU d w 0)) 5 (KO d w) c := fun c h1 h2 => by
      by_cases c5 : c = 5
      · subst c5; rw [u2_s]; simp [f1]
      · rw [u2_c _ _ _ _ c5, u2_c _ _ _ _ (by omega), m1 c h1 h2]; unfold f1; rw [if_neg c5]
    generalize (u2 (u2 (u2 (u2 hm 0 5 0) 4 n (NU d w 0)) 0 5 (nI (0 + 1))) 5 n (KO d w)) = Z at hR3 g51 F3 m3 ⊢
    have n151 : c1K d n w = false → wbM_readLine_151 (KO d w) Z hl Φ := fun q1 => by
      unfold wbM_readLine_151 wbM_readLine_152
      rw [q1] at h
      exact on_0 g51 (br_t rfl ⟨i01_0, h false _ (Po_c F3 (Po_f (RC_s hR3 5 _ (by decide) (by decide)) (Fm_5 _ _) (u2_s _ _ _ _)))⟩)
    have y147 : c1K d n w = true → wbM_readLine_147 (KO d w) Z hl Φ := fun q1 => by
      unfold wbM_readLine_147
      rw [q1] at h
      rcases KO_cases d w with e | ⟨κ, hκ, e⟩
      · unfold c1K at q1
        rw [decide_eq_true_eq, e] at q1
        exact absurd q1.1 (by decide)
      · have ec : (KO d w).toNatClampNeg = κ := by rw [e]; exact nI_clamp (by omega)
        unfold FNA at h
        rw [ec] at h
        have hh : ∀ b hm', Po d n w (u2 Z 0 5 (nI 2)) (CK d n w κ) 2 (FN d n w κ (fI (fun c => Z c n))) b hm' → Φ (bI b) hm' hl := fun b hm' hp => h b hm' (Po_c (hm1 := Z) F3 (Po_c (hm1 := u2 Z 0 5 (nI 2)) (Fm_5 _ _) (Po_m hp (FN_m d n w κ (fI_m m3)))))
        have := pM_rl2 (hl := hl) (Φ := Φ) hT hW hA hR3 g51 κ hκ hh
        rw [← e] at this
        exact this
    refine loop_f (fun fu i s => wbM_readLine_86 fu (KO d w) s (nI i) Z hl Φ) (fun i => nI (hrd d i)) n (fun k => ?_) (fun k i hk ih => ?_)
    · unfold wbM_readLine_86
      refine br_t (by rw [hR3.1]; exact nI_le (Nat.le_refl _) (by omega)) ?_
      refine br_c (fun z => n151 ?_) (fun z => ?_)
      · unfold c1K; refine decide_eq_false (fun x => ?_)
        rw [← i32_nlt] at x; exact x.1 z
      · rw [pM_in]
        have hl20 := hrd_le d n
        refine br_c (fun y => y147 ?_) (fun y => pk_le 2 (hrd d n) (fun x => n151 ?_) (fun x => y147 ?_))
        · rw [bI_0, decide_eq_false_iff_not] at y
          unfold c1K; exact decide_eq_true ⟨nlt0 z, fun x => y x.1⟩
        · rw [bI_ne, decide_eq_true_eq] at y
          unfold c1K; exact decide_eq_false (fun r => r.2 ⟨y, x⟩)
        · unfold c1K; exact decide_eq_true ⟨nlt0 z, fun r => absurd r.2 (by omega)⟩
    · unfold wbM_readLine_86 wbM_readLine_119
      refine br_f (by rw [hR3.1]; exact nI_ge hk (by omega)) ⟨vp_in_nI (by omega) (by omega), ?_⟩
      rw [pM_in, nI_clamp (by omega), hR3.2.2.2.2.2 5 (by omega) (by omega) i hk, nI_n1, nI_1, nI_1]
      refine br_c (fun y => ?_) (fun y => ?_)
      · rw [bI_0, decide_eq_false_iff_not] at y
        have : hrd d (i + 1) = hrd d i := by simp only [hrd, if_neg y, Nat.add_zero]
        rw [this] at ih; exact ih
      · rw [bI_ne, decide_eq_true_eq] at y
        have : hrd d (i + 1) = hrd d i + 1 := by simp only [hrd, if_pos y]
        rw [this] at ih; exact ih
  refine ⟨hv, br_c (fun z => no ?_) (fun z => pk_eq n 0 (fun n0 => yes ?_) (fun n0 => ?_))⟩
  · unfold c0K; refine decide_eq_false (fun x => ?_)
    rw [← i32_nlt] at x; exact x.1 z
  · unfold c0K; rw [i32_nlt] at z; exact decide_eq_true ⟨z, Or.inl n0⟩
  · have e1 : nI n - 1 = nI (n - 1) := by
      have : n = (n - 1) + 1 := by omega
      rw [this, nI_pred]; congr 1
    rw [e1, nI_clamp (by omega), hR1.2.2.2.2.2 4 (by omega) (by omega) (n - 1) (by omega)]
    rw [i32_nlt] at z
    refine ⟨vp_in_nI (by omega) (by omega), br_c (fun y => no ?_) (fun y => yes ?_)⟩
    · unfold c0K; refine decide_eq_false (fun x => ?_)
      have := x.2.resolve_left n0
      rw [← i32_nle] at this; exact this y
    · unfold c0K; rw [i32_nle] at y; exact decide_eq_true ⟨z, Or.inr y⟩
