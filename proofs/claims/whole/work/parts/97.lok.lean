/-! line -/
theorem line_ok {hm hx : HI} {hl hlm : HL} (hR : Rel hm hx hl) : wpC_line hx hl (fun r hx' hl' => wpM_line hm hlm (fun r' hm' _ => r = r' ∧ Rel hm' hx' hl')) := by
  obtain ⟨n, m, run, hA, hT, hRn, hK⟩ := hR
  obtain ⟨m1, x3, m40, c1, c2, c3⟩ := hT
  have hF := hA.1
  have hn := hF.1.1
  unfold wpC_line wbC_line_0
  refine pX_split hx hl _ m x3 m40 ?_
  -- the words
  obtain ⟨i1, i2, i3, i4⟩ := spI (hm 1) (hm 2) (hm 3) m
  have hw20 : spw (hm 1) m ≤ 20 := by omega
  rw [c1, c2, c3]
  generalize hwdef : spw (hm 1) m = w at i1 i2 i3 i4 hw20 ⊢
  generalize hfdef : spf (hm 1) (hm 2) m = f at i4 ⊢
  generalize htdef : spt (hm 1) (hm 3) m = t at i4 ⊢
  -- M's state behind the split
  have hsM : ∀ Ψ : HI → HL → Prop, Ψ (u2 (SPM hm w f t) 0 1 0) hlm → wpM_split hm hlm Ψ := fun Ψ hΨ => by
    refine pM_split hm hlm Ψ m m1 m40 ?_
    rw [hwdef, hfdef, htdef]; exact hΨ
  generalize hd : u2 (SPM hm w f t) 0 1 0 = d at hsM
  have dc : ∀ c, 4 ≤ c → d c = hm c := fun c hc => by
    rw [← hd, u2_cf _ _ _ (by omega)]
    funext b; unfold SPM; rw [if_neg (by omega), if_neg (by omega), if_neg (by omega)]
  have d1 : d 1 = hm 1 := by rw [← hd, u2_cf _ _ _ (by decide)]; funext b; simp [SPM]
  have d2 : d 2 = f := by rw [← hd, u2_cf _ _ _ (by decide)]; funext b; simp [SPM]
  have d3 : d 3 = t := by rw [← hd, u2_cf _ _ _ (by decide)]; funext b; simp [SPM]
  have d02 : d 0 2 = nI w := by rw [← hd, u2_j _ _ _ _ (by decide)]; simp [SPM]
  have d01 : d 0 1 = 0 := by rw [← hd, u2_s]
  have d0 : ∀ s, s ≠ 1 → s ≠ 2 → d 0 s = hm 0 s := fun s h1 h2 => by
    rw [← hd, u2_j _ _ _ _ h1]; unfold SPM; rw [if_neg (fun y => h2 y.2), if_neg (by decide), if_neg (by decide)]
  have hE : EQL hm d n := fun c h1 h2 k hk => by rw [dc c h1]
  have hTX : TXw d w := ⟨hw20, fun j hj => by
    obtain ⟨a, b, e1, e2, e3, e4⟩ := i4 j hj
    exact ⟨a, b, by rw [d2]; exact e1, by rw [d3]; exact e2, e3, by omega⟩⟩
  have hFd := WF_c hE hF
  have hMd := WInc_c hE hA.2.1
  have xo : ∀ c, c ≠ 1 → c ≠ 3 → c ≠ 4 → SPX hx w f t c = hx c := fun c h1 h3 h4 => by
    funext b; unfold SPX; rw [if_neg (fun y => h1 y.1), if_neg h3, if_neg h4]
  have x14 : SPX hx w f t 1 4 = nI w := by simp [SPX]
  have hXd : RXL d (SPX hx w f t) n := RXL_x (fun k _ => xo _ (by omega) (by omega) (by omega)) (xo 5 (by decide) (by decide) (by decide)) hn (RXL_c hE hF hA.2.2.2.1)
  have hTd : TBL d n (SPX hx w f t) hl := TBL_x (fun k _ => xo _ (by omega) (by omega) (by omega)) (fun _ _ => rfl) rfl rfl rfl hn (TBL_c hE hF hA.2.2.2.2)
  have hRX : RX d (SPX hx w f t) n w := ⟨hXd.1, x14, by rw [xo 2 (by decide) (by decide) (by decide), c1, d1], by rw [d2]; funext b; simp [SPX], by rw [d3]; funext b; simp [SPX], hXd.2.1, hXd.2.2.1, hXd.2.2.2.1, hXd.2.2.2.2⟩
  have hRC : RC d d n w := ⟨by rw [d0 6 (by decide) (by decide)]; exact hA.2.2.1, d02, rfl, rfl, rfl, fun c _ _ k _ => rfl⟩
  refine pX_firstFault hTX hFd.1 hFd.2.2.1 hRX (fun r hx1 hPF => ?_)
  obtain ⟨f1, f2, f3⟩ := hPF
  unfold wpT_clear wbT_clear_0
  have hx1o : ∀ c, c ≠ 1 → c ≠ 3 → c ≠ 4 → (c < 10 ∨ 12 < c) → hx1 c = hx c := fun c h1 h3 h4 h => by rw [f2 c h]; exact xo c h1 h3 h4
  -- the state that is kept if no line is taken
  have stay : ∀ hm', RC d hm' n w → Fm d hm' → Rel hm' (u2 (u2 hx1 1 3 0) 1 4 0) hl := fun hm' g1 g2 => by
    have hE' : EQL hm hm' n := fun c h1 h2 k hk => by rw [g1.2.2.2.2.2 c h1 h2 k hk, dc c h1]
    have s0 : ∀ s, s ≠ 1 → s ≠ 2 → s ≠ 5 → s ≠ 20 → hm' 0 s = hm 0 s := fun s h1 h2 h5 h20 => by rw [g2.1 s h5 h20, d0 s h1 h2]
    have xx : ∀ c, c ≠ 1 → c ≠ 3 → c ≠ 4 → (c < 10 ∨ 12 < c) → (u2 (u2 hx1 1 3 0) 1 4 0) c = hx c := fun c h1 h3 h4 h => by
      rw [u2_cf _ _ _ h1, u2_cf _ _ _ h1]; exact hx1o c h1 h3 h4 h
    refine ⟨n, 0, run, RelA_c hE' (s0 6 (by decide) (by decide) (by decide) (by decide)) (fun k _ => xx _ (by omega) (by omega) (by omega) (by omega)) (xx 5 (by decide) (by decide) (by decide) (by decide)) hA, ⟨?_, ?_, by omega, ?_, ?_, ?_⟩, RelR_c hE' hF (s0 23 (by decide) (by decide) (by decide) (by decide)) (by rw [g2.2.2.1, dc 19 (by omega)]) (xx 0 (by decide) (by decide) (by decide) (by decide)) hRn, KP_c hE' hF (s0 25 (by decide) (by decide) (by decide) (by decide)) (s0 26 (by decide) (by decide) (by decide) (by decide)) (xx 20 (by decide) (by decide) (by decide) (by decide)) (xx 22 (by decide) (by decide) (by decide) (by decide)) (xx 23 (by decide) (by decide) (by decide) (by decide)) hK⟩
    · rw [g2.1 1 (by decide) (by decide), d01]; rfl
    · rw [u2_j _ _ _ _ (by decide), u2_s]; rfl
    · rw [xx 2 (by decide) (by decide) (by decide) (by decide), g1.2.2.1, d1, c1]
    · rw [u2_cf _ _ _ (by decide), u2_cf _ _ _ (by decide), f1.2.2.2.1, g1.2.2.2.1]
    · rw [u2_cf _ _ _ (by decide), u2_cf _ _ _ (by decide), f1.2.2.2.2.1, g1.2.2.2.2.1]
  -- M's answer to a faulty line
  have mline : ∀ Ψ : Int32 → HI → HL → Prop, (∀ b hm', Po d n w d (CKA d n w) 0 (FNA d n w (fun c => d c n)) b hm' → ((b = false ∨ ¬ lr (CKA d n w) 0 = w) → Ψ (-1 - nI (lr (CKA d n w) 0)) hm' hlm) ∧ (b = true → lr (CKA d n w) 0 = w → wbM_line_27 1 hm' hlm Ψ)) → wpM_line hm hlm Ψ := fun Ψ hΨ => by
    unfold wpM_line wbM_line_0
    refine hsM _ (pM_readLine hTX hFd.1 hFd.2.1 hRC (fun b hm' hp => ?_))
    obtain ⟨a1, a2⟩ := hΨ b hm' hp
    have h26 : (b = false ∨ ¬ lr (CKA d n w) 0 = w) → wbM_line_26 hm' hlm Ψ := fun q => by
      unfold wbM_line_26 wbM_line_27
      refine br_t rfl ?_
      rw [hp.2.1]; exact a1 q
    have hl : lr (CKA d n w) 0 < 2 ^ 31 := by
      have := lr_le (CKA d n w) 0
      have l2 := CKA_len (d := d) (n := n) (w := w)
      rcases KO_cases d w with e | ⟨κ, hκ, e⟩
      · have : (KO d w).toNatClampNeg = 0 := by rw [e]; decide
        rw [this] at l2
        have := CK_len (d := d) (n := n) (w := w) (κ := 0) (by omega)
        omega
      · have : (KO d w).toNatClampNeg = κ := by rw [e]; exact nI_clamp (by omega)
        rw [this] at l2
        have := CK_len (d := d) (n := n) (w := w) hκ
        omega
    refine br_c (fun q => h26 (Or.inl ?_)) (fun q => ?_)
    · rw [bI_0] at q; exact q
    · rw [bI_ne] at q
      rw [hp.2.1, hp.2.2.1.2.1]
      exact pk_eq (lr (CKA d n w) 0) w (fun z => a2 q z) (fun z => h26 (Or.inr z))
  rcases f3 with ⟨all, er⟩ | ⟨all, hDF, er⟩
  · -- a word is at fault
    have hl31 : lr (CKA d n w) 0 < 2 ^ 31 := by
      have := lr_le (CKA d n w) 0
      have l2 := CKA_len (d := d) (n := n) (w := w)
      rcases KO_cases d w with e | ⟨κ, hκ, e⟩
      · have : (KO d w).toNatClampNeg = 0 := by rw [e]; decide
        rw [this] at l2
        have := CK_len (d := d) (n := n) (w := w) (κ := 0) (by omega)
        omega
      · have : (KO d w).toNatClampNeg = κ := by rw [e]; exact nI_clamp (by omega)
        rw [this] at l2
        have := CK_len (d := d) (n := n) (w := w) hκ
        omega
    rw [er]
    refine br_f (nI_pos hl31) (mline _ (fun b hm' hp => ⟨fun _ => ⟨rfl, stay hm' hp.2.2.1 hp.2.2.2.1⟩, fun hb _ => ?_⟩))
    have := hp.1
    rw [hb, all] at this; exact absurd this (by decide)
  · -- the line is not faulty, but for words too many
    have hKO : ∃ κ, κ ≤ 30 ∧ KO d w = nI κ := by
      rcases KO_cases d w with e | z
      · exfalso
        unfold CKA at all
        simp only [List.all_cons, Bool.and_eq_true, id] at all
        have := of_decide_eq_true all.2.1
        rw [e] at this; exact absurd this.1 (by decide)
      · exact z
    obtain ⟨κ, hκ, eK⟩ := hKO
    have eKc : (KO d w).toNatClampNeg = κ := by rw [eK]; exact nI_clamp (by omega)
    have allK : (CK d n w κ).all id = true := by
      have := all
      unfold CKA at this
      rw [eKc] at this
      simp only [List.all_cons, Bool.and_eq_true, id] at this
      exact this.2.2
    have lenA : (CKA d n w).length = 2 + (CK d n w κ).length := by rw [CKA_len, eKc]
    have lw := len_n hκ allK
    have l4 := CK_len (d := d) (n := n) (w := w) hκ
    have lrA : lr (CKA d n w) 0 = (CKA d n w).length := by rw [lr_all _ _ all]; omega
    rw [eKc] at hDF
    by_cases wl : w ≤ (CKA d n w).length
    · have ew : (CKA d n w).length = w := by omega
      rw [if_pos wl] at er
      rw [er]
      refine br_t (by decide) ?_
      have c52 : (u2 (u2 hx1 1 3 0) 1 4 0) 5 2 = nI n := by rw [u2_c _ _ _ _ (by decide), u2_c _ _ _ _ (by decide)]; exact f1.1
      rw [c52]
      refine pk_lt n 20 (fun n20 => ?_) (fun n20 => ?_)
      · -- taken
        let dN : HI := fun c k => if 4 ≤ c ∧ c ≤ 16 ∧ k = n then FNA d n w (fun c => d c n) c else d c k
        have dNn : ∀ c, 4 ≤ c → c ≤ 16 → dN c n = FNA d n w (fun c => d c n) c := fun c h1 h2 => by
          show (if 4 ≤ c ∧ c ≤ 16 ∧ n = n then FNA d n w (fun c => d c n) c else d c n) = _
          rw [if_pos ⟨h1, h2, rfl⟩]
        have dNo : ∀ c k, ¬ k = n → dN c k = d c k := fun c k hk => by
          show (if 4 ≤ c ∧ c ≤ 16 ∧ k = n then FNA d n w (fun c => d c n) c else d c k) = _
          rw [if_neg (fun y => hk y.2.2)]
        have hNL : NL d dN n w κ := ⟨hTX, hFd, fun c _ _ k hk => dNo c k (by omega), hκ, eK, all, ⟨_, dNn⟩⟩
        obtain ⟨hFN, hMN⟩ := wfn hNL n20 hMd
        have x1 : ∀ c, c ≠ 1 → (u2 (u2 hx1 1 3 0) 1 4 0) c = hx1 c := fun c h1 => by rw [u2_cf _ _ _ h1, u2_cf _ _ _ h1]
        have hX1 : RXL d (u2 (u2 hx1 1 3 0) 1 4 0) n := RXL_x (fun k _ => x1 _ (by omega)) (x1 5 (by decide)) hn (RX_L f1)
        have hT1 : TBL d n (u2 (u2 hx1 1 3 0) 1 4 0) hl := TBL_x (fun k _ => by rw [x1 _ (by omega), f2 _ (by omega)]) (fun _ _ => rfl) rfl rfl rfl hn hTd
        have hD1 : DF d n w κ (u2 (u2 hx1 1 3 0) 1 4 0) := by
          unfold DF
          rw [x1 10 (by decide), x1 11 (by decide), x1 12 (by decide)]
          exact hDF
        refine takeN hNL n20 hMd hX1 hT1 hD1 (fun hx2 hl2 gX gT gF => ⟨i01_0, ?_⟩)
        unfold wpS_drop wbS_drop_0
        refine mline _ (fun b hm' hp => ⟨fun q => ?_, fun hb _ => ?_⟩)
        · exfalso
          rcases q with q | q
          · have := hp.1; rw [q, all] at this; exact absurd this (by decide)
          · exact q (by omega)
        · obtain ⟨_, _, g1, g2, g3⟩ := hp
          have g3' := g3 hb
          unfold wbM_line_27
          rw [g1.1]
          refine br_f (by decide) (br_t (nI_lt (b := 20) n20 (by omega)) ⟨i01_0, ?_⟩)
          rw [nI_1]
          have e6 : (u2 (u2 (u2 hm' 0 6 (nI (n + 1))) 0 23 0) 0 25 (-1)) 0 6 = nI (n + 1) := by simp (decide := true) only [u2_j, u2_s]
          rw [e6, nI_pred, nI_clamp (by omega)]
          have z4 : ∀ c, c ≠ 0 → (u2 (u2 (u2 hm' 0 6 (nI (n + 1))) 0 23 0) 0 25 (-1)) c = hm' c := fun c hc => by
            rw [u2_cf _ _ _ hc, u2_cf _ _ _ hc, u2_cf _ _ _ hc]
          have hE2 : EQL dN (u2 (u2 (u2 hm' 0 6 (nI (n + 1))) 0 23 0) 0 25 (-1)) (n + 1) := fun c h1 h2 k hk => by
            rw [z4 c (by omega)]
            by_cases z : k = n
            · subst z; rw [g3' c h1 h2, dNn c h1 h2]
            · rw [g1.2.2.2.2.2 c h1 h2 k (by omega), dNo c k z]
          have xf : ∀ c, c ≠ 0 → c ≠ 20 → (u2 (u2 hx2 0 4 0) 20 4 0) c = hx2 c := fun c h1 h2 => by rw [u2_cf _ _ _ h2, u2_cf _ _ _ h1]
          have e4 : hm' 4 n = NU d w 0 := by rw [g3' 4 (by omega) (by omega), ← dNn 4 (by omega) (by omega)]; exact N4 hNL
          have hF2 := WF_c hE2 hFN
          refine ⟨vp_in_nI (by omega) (by omega), ?_, n + 1, 0, false, ⟨hF2, WInc_c hE2 hMN, e6, RXL_x (fun k _ => xf _ (by omega) (by omega)) (xf 5 (by decide) (by decide)) (by omega) (RXL_c hE2 hFN gX), TBL_x (fun k _ => xf _ (by omega) (by omega)) (fun _ _ => rfl) rfl rfl rfl (by omega) (TBL_c hE2 hFN gT)⟩, ⟨?_, ?_, by omega, ?_, ?_, ?_⟩, ⟨?_, ?_, fun q => absurd q (by decide)⟩, Or.inl ⟨?_, ?_⟩⟩
          · rw [xf 10 (by decide) (by decide), gF 10 (by decide) (by decide) (by decide), x1 10 (by decide), hDF.1, z4 4 (by decide), e4]
          · simp (decide := true) only [u2_j]
            rw [g2.1 1 (by decide) (by decide), d01]; rfl
          · rw [xf 1 (by decide) (by decide), gF 1 (by decide) (by decide) (by decide), u2_j _ _ _ _ (by decide), u2_s]; rfl
          · rw [xf 2 (by decide) (by decide), gF 2 (by decide) (by decide) (by decide), x1 2 (by decide), z4 1 (by decide), f1.2.2.1, g1.2.2.1]
          · rw [xf 3 (by decide) (by decide), gF 3 (by decide) (by decide) (by decide), x1 3 (by decide), z4 2 (by decide), f1.2.2.2.1, g1.2.2.2.1]
          · rw [xf 4 (by decide) (by decide), gF 4 (by decide) (by decide) (by decide), x1 4 (by decide), z4 3 (by decide), f1.2.2.2.2.1, g1.2.2.2.2.1]
          · simp (decide := true) only [u2_j, u2_s, bI_f]
          · rw [u2_c _ _ _ _ (by decide), u2_s]; rfl
          · rw [u2_s]
          · rw [u2_s]
      · refine mline _ (fun b hm' hp => ⟨fun q => ?_, fun hb _ => ?_⟩)
        · exfalso
          rcases q with q | q
          · have := hp.1; rw [q, all] at this; exact absurd this (by decide)
          · exact q (by omega)
        · unfold wbM_line_27
          refine br_f (by decide) (br_f ?_ ⟨rfl, stay hm' hp.2.2.1 hp.2.2.2.1⟩)
          rw [hp.2.2.1.1]; exact nI_nlt (b := 20) n20 (by omega)
    · rw [if_neg wl] at er
      rw [er]
      refine br_f (nI_pos (by omega)) (mline _ (fun b hm' hp => ⟨fun _ => ⟨by rw [lrA], stay hm' hp.2.2.1 hp.2.2.2.1⟩, fun hb z => ?_⟩))
      omega
