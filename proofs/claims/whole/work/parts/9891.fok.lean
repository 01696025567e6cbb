/-! find, prove, shown: the two in step -/
theorem fnd_less {d : HI} {n : Nat} {h0 : HL} {v0 : Nat → Nat} (hB : MB d n h0 v0) {D : Nat} (hless : ∀ q, q ≤ D → ∀ σ, σ < 2 ^ tot d (nI 2) n → Sta d n v0 n σ → ¬ nr (sy d n h0) q σ) (V : Nat) (hV : V < 2 ^ (tof d (TA d n false) n + (D + 1) * tot d (nI 1) n)) : ¬ MTd d n h0 v0 D V :=
  find_none (sy_ok d n h0) (cb := tof d (TA d n false) n) (st := st d n false v0) (fun q hq a _ => hless q hq _ (st_lt hB.1 hB.2.2.2.2.2.1 _ _) (Sta_st hB.1 hB.2.2.2.2.2.1 a)) V hV
theorem fnd_some {d : HI} {n : Nat} {h0 : HL} {v0 : Nat → Nat} (hB : MB d n h0 v0) {D σ x : Nat} (hD : D ≤ 3) (hless : ∀ q, q < D → ∀ σ, σ < 2 ^ tot d (nI 2) n → Sta d n v0 n σ → ¬ nr (sy d n h0) q σ) (hσ : σ < 2 ^ tot d (nI 2) n) (hS : Sta d n v0 n σ) (hmin : ∀ τ, τ < 2 ^ tot d (nI 2) n → Sta d n v0 n τ → nr (sy d n h0) D τ → pkn d n σ ≤ pkn d n τ) (hx : x < 2 ^ ((D + 1) * tot d (nI 1) n)) (hL : LT (sy d n h0) D σ x) :
    ∃ W, W < 2 ^ (tof d (TA d n false) n + (D + 1) * tot d (nI 1) n) ∧ MTd d n h0 v0 D W ∧ (∀ V, V < W → ¬ MTd d n h0 v0 D V) ∧ RunOf d n W D (sg (sy d n h0) D σ x) (fun t => yi (sy d n h0) x (D - t)) := by
  obtain ⟨hF, hBD, hLA, hS6, hI2, v1, v2, v3⟩ := id hB
  obtain ⟨c, hc, ec⟩ := st_sur hF v1 hσ hS
  have hmono : ∀ a b, a < b → b < 2 ^ tof d (TA d n false) n → pkn d n (st d n false v0 a) < pkn d n (st d n false v0 b) := fun a b hab hb => by
    have := (st_mono hF v1 a b (by omega) hb n (Nat.le_refl _)).1
    rw [Nat.sub_self, Nat.pow_zero, Nat.div_one, Nat.div_one] at this
    exact this hab
  have core := find_core (sy_ok d n h0) (D := D) (cb := tof d (TA d n false) n) (c := c) (x := x) (st := st d n false v0) (key := pkn d n) hc hmono (fun q hq a _ => hless q hq _ (st_lt hF v1 _ _) (Sta_st hF v1 a)) (fun a ha hn => by rw [ec]; exact hmin _ (st_lt hF v1 _ _) (Sta_st hF v1 a) hn) hx (by rw [ec]; exact hL)
  have hW : x + c * 2 ^ ((D + 1) * tot d (nI 1) n) < 2 ^ (tof d (TA d n false) n + (D + 1) * tot d (nI 1) n) := by
    have : (c + 1) * 2 ^ ((D + 1) * tot d (nI 1) n) ≤ 2 ^ tof d (TA d n false) n * 2 ^ ((D + 1) * tot d (nI 1) n) := Nat.mul_le_mul_right _ hc
    rw [Nat.add_mul, Nat.one_mul, ← Nat.pow_add] at this
    omega
  refine ⟨x + c * 2 ^ ((D + 1) * tot d (nI 1) n), hW, core.1, core.2, fun k hk e v w1 w2 w3 => ?_, fun t ht k hk e => ?_, fun t ht v hA k hk e => ?_, fun t ht => ⟨sg_lt hσ t, ia_lt d n _⟩⟩
  · have e1 : (x + c * 2 ^ ((D + 1) * tot d (nI 1) n)) / 2 ^ ((D + 1) * tot d (nI 1) n) = c := by
      rw [Nat.add_mul_div_right _ _ (Nat.two_pow_pos _), Nat.div_eq_of_lt hx, Nat.zero_add]
    have e2 := sV_C (d := d) (n := n) (any := false) (v0 := v0) (V := x + c * 2 ^ ((D + 1) * tot d (nI 1) n)) (q := (D + 1) * tot d (nI 1) n) hk
    rw [e1, ← st_f hF v1 _ _ hk e, ec] at e2
    show fld d σ k = _
    rw [← e2]
    unfold sV
    rw [ivl_u hF v1 v2 v3 w1 w2 w3 n (Nat.le_refl _) k]
    rfl
  · show fld d (ia d n (dgt (tot d (nI 1) n) x (D - t))) k = _
    have e1 : dgt (tot d (nI 1) n) x (D - t) = dgt (tot d (nI 1) n) (x + c * 2 ^ ((D + 1) * tot d (nI 1) n)) (D - t) := (dgt_low (by omega)).symm
    rw [e1, ← ia_dg hk e]
    have e2 : (D + 1) * tot d (nI 1) n = (D - t + 1) * tot d (nI 1) n + t * tot d (nI 1) n := by
      rw [← Nat.add_mul]; congr 1; omega
    have e3 : plc d n D - cbs d n - t * tot d (nI 1) n = (D - t + 1) * tot d (nI 1) n := by
      unfold plc; omega
    rw [e3]
  · exact AF_f hLA hF (show _ < 64 by have := sg_lt (d := d) (n := n) (h0 := h0) (D := D) (x := x) hσ t; have := p2_64 hS6; omega) (show yi (sy d n h0) x (D - t) < 4 by
      have h4 : (2 : Nat) ^ tot d (nI 1) n ≤ 2 ^ 2 := Nat.pow_le_pow_right (by omega) hI2
      have : yi (sy d n h0) x (D - t) < 2 ^ tot d (nI 1) n := ia_lt d n _
      omega) hA hk e
theorem MB_of {hm hx : HI} {hl : HL} {n : Nat} (hA : RelA hm n hx hl) : ∃ v0, MB hm n hl v0 := by
  obtain ⟨hW, hL, hB, hI, hP⟩ := hA.2.2.2.2
  obtain ⟨v0, v1, v2, v3⟩ := asg_ex hA.1 (fun _ => 0) (fun _ _ _ => Nat.two_pow_pos _)
  exact ⟨v0, hA.1, hB, hL, hP.2.2.2, hP.2.2.1, v1, v2, v3⟩
theorem i03 {x : Int32} (h0 : ¬ x < 0) (h3 : x ≤ 3) : ∃ k, k ≤ 3 ∧ x = nI k := nI_of2 (n := 3) (by decide) h0 h3
theorem i02 {x : Int32} (h0 : ¬ x < 0) (h3 : x ≤ 2) : ∃ k, k ≤ 2 ∧ x = nI k := nI_of2 (n := 2) (by decide) h0 h3
theorem find_ok {hm hx : HI} {hl hlm : HL} (x : Int32) (hR : Rel hm hx hl) : wpC_find x hx hl (fun r hx' hl' => wpM_find x hm hlm (fun r' hm' _ => r = r' ∧ Rel hm' hx' hl')) := by
  have hR' := hR
  obtain ⟨n, m, run, hA, hT, hRn, hK⟩ := hR
  have hF := hA.1
  have hn := hF.1.1
  have hRL := RelA_R hA
  have ref : ¬ (0 ≤ x ∧ x ≤ 3) → wpM_find x hm hlm (fun r' hm' _ => -2 = r' ∧ Rel hm' hx hl) := fun q => by
    unfold wpM_find wbM_find_0
    rw [pM_in, decide_eq_false q]
    exact br_t rfl ⟨rfl, hR'⟩
  unfold wpC_find wbC_find_0
  refine br_c (fun q => ref (fun z => ?_)) (fun q => br_c (fun q3 => ?_) (fun q3 => ref (fun z => q3 z.2)))
  · rw [← i32_nle] at q; exact q z.1
  · obtain ⟨k, hk, rfl⟩ := i03 q q3
    obtain ⟨v0, hB⟩ := MB_of hA
    obtain ⟨_, hBD, hLA, hS6, hI2, v1, v2, v3⟩ := id hB
    obtain ⟨hW, _, _, hI, hP⟩ := hA.2.2.2.2
    refine pX_leastBad hF ⟨hA.2.2.2.1, hP⟩ hI v0 v1 v2 v3 k hk (fun hl' g1 g2 g3 => ?_) (fun D hD hless σ hσ hS hmin y hy hL hl' g1 hx' x1 x2 x3 => ?_)
    · refine pM_find0 hB hRL k hk (fun D hD V hV => fnd_less hB (fun q hq => g3 q (by omega)) V hV) (fun hm' g => ⟨rfl, ?_⟩)
      have g00 : hm' 0 = u2 hm 0 25 (-1) 0 := g 0 (by decide) (by decide)
      exact Rel_F (fun c h1 h2 h3 h0 => by rw [g c h1 h2, u2_cf _ _ _ h0]) (fun s h1 _ => by rw [g00, u2_j _ _ _ _ h1]) (fun c h1 _ _ => u2_cf _ _ _ h1) g1 hA hT hRn (Or.inl ⟨by rw [g00, u2_s], u2_s _ _ _ _⟩)
    · obtain ⟨W, w1, w2, w3, w4⟩ := fnd_some hB (by omega) hless hσ hS hmin hy hL
      have hp := p2_14 (p_14 hB false (show D ≤ 3 by omega))
      refine pM_find1 hB hRL k hk D hD (fun q hq V hV => fnd_less hB (fun q' hq' => hless q' (by omega)) V hV) W w1 w2 w3 (fun hm' g => ⟨rfl, ?_⟩)
      have g00 : hm' 0 = u2 hm 0 25 (-1) 0 := g 0 (by decide) (by decide)
      refine Rel_F (fun c h1 h2 h3 h0 => by rw [u2_cf _ _ _ h0, u2_cf _ _ _ h0, g c h1 h2, u2_cf _ _ _ h0]) (fun s h1 h2 => by rw [u2_j _ _ _ _ h2, u2_j _ _ _ _ h1, g00, u2_j _ _ _ _ h1]) x1 g1 hA hT hRn (Or.inr ⟨D, W, _, _, by omega, ?_, u2_s _ _ _ _, by omega, x2, x3, w4⟩)
      rw [u2_j _ _ _ _ (by decide), u2_s]
/-! prove -/
def SMd (d : HI) (n : Nat) (hz : HL) (v0 : Nat → Nat) (K V : Nat) : Prop := SM (sy d n hz) (K + 1) (fun _ => False) (st d n true v0 (V / 2 ^ ((K + 2) * tot d (nI 1) n))) V
theorem pr33n {d hm : HI} {n : Nat} {hl hz : HL} {v0 : Nat → Nat} {Φ : Int32 → HI → HL → Prop} (hB : MB d n hz v0) (hR : RL d hm n) (K : Nat) (hK : K ≤ 2) (hno : ∀ V, V < 2 ^ (tof d (TA d n true) n + (K + 2) * tot d (nI 1) n) → ¬ SMd d n hz v0 K V)
    (h : ∀ hm', G20 hm hm' → Φ 1 hm' hl) : ∃ fu, wbM_prove_33 fu (nI K) (nI (tof d (TA d n true) n + (K + 2) * tot d (nI 1) n)) 0 hm hl Φ := by
  obtain ⟨hF, hBD, hLA, hS6, hI2, v1, v2, v3⟩ := id hB
  have hp := p_14 hB true (show K + 1 ≤ 3 by omega)
  have hp' : tof d (TA d n true) n + (K + 2) * tot d (nI 1) n ≤ 14 := hp
  have hpp := p2_14 hp'
  refine loop_0 (fun fu V (s : HI) => wbM_prove_33 fu (nI K) (nI (tof d (TA d n true) n + (K + 2) * tot d (nI 1) n)) (nI V) s hl Φ) (fun V s => G20 hm s) (2 ^ (tof d (TA d n true) n + (K + 2) * tot d (nI 1) n)) hm (fun _ _ _ _ => rfl) (fun m s hs => ?_) (fun m V s hV hs ih => ?_)
  · unfold wbM_prove_33
    rw [sh_1 (by omega)]
    exact br_t (nI_le (Nat.le_refl _) (by omega)) (h s hs)
  · unfold wbM_prove_33
    rw [sh_1 (by omega)]
    refine br_f (nI_ge hV (by omega)) (pM_isStretch hF (RL_20 hR hs) hBD hLA hS6 hI2 v1 v2 v3 V K (by omega) (by omega) (fun b hm' g hb => ?_))
    rw [nI_n1, nI_1 V]
    refine br_t ?_ (ih hm' (fun c h1 h2 h3 => (g c h1 h2 h3).trans (hs c h1 h2 h3)))
    rw [bI_0]
    cases b
    · rfl
    · exact absurd (hb.mp rfl) (hno V hV)
theorem pr33s {d hm : HI} {n : Nat} {hl hz : HL} {v0 : Nat → Nat} {Φ : Int32 → HI → HL → Prop} (hB : MB d n hz v0) (hR : RL d hm n) (K : Nat) (hK : K ≤ 2) (W : Nat) (hW : W < 2 ^ (tof d (TA d n true) n + (K + 2) * tot d (nI 1) n)) (hM : SMd d n hz v0 K W) (hno : ∀ V, V < W → ¬ SMd d n hz v0 K V)
    (h : ∀ hm', G20 hm hm' → Φ 0 hm' hl) : ∃ fu, wbM_prove_33 fu (nI K) (nI (tof d (TA d n true) n + (K + 2) * tot d (nI 1) n)) 0 hm hl Φ := by
  obtain ⟨hF, hBD, hLA, hS6, hI2, v1, v2, v3⟩ := id hB
  have hp := p_14 hB true (show K + 1 ≤ 3 by omega)
  have hp' : tof d (TA d n true) n + (K + 2) * tot d (nI 1) n ≤ 14 := hp
  have hpp := p2_14 hp'
  refine loop_0 (fun fu V (s : HI) => wbM_prove_33 fu (nI K) (nI (tof d (TA d n true) n + (K + 2) * tot d (nI 1) n)) (nI V) s hl Φ) (fun V s => G20 hm s) W hm (fun _ _ _ _ => rfl) (fun m s hs => ?_) (fun m V s hV hs ih => ?_)
  · unfold wbM_prove_33
    rw [sh_1 (by omega)]
    refine br_f (nI_ge hW (by omega)) (pM_isStretch hF (RL_20 hR hs) hBD hLA hS6 hI2 v1 v2 v3 W K (by omega) (by omega) (fun b hm' g hb => ?_))
    refine br_f ?_ (h hm' (fun c h1 h2 h3 => (g c h1 h2 h3).trans (hs c h1 h2 h3)))
    rw [bI_ne]; exact hb.mpr hM
  · unfold wbM_prove_33
    rw [sh_1 (by omega)]
    refine br_f (nI_ge (by omega) (by omega)) (pM_isStretch hF (RL_20 hR hs) hBD hLA hS6 hI2 v1 v2 v3 V K (by omega) (by omega) (fun b hm' g hb => ?_))
    rw [nI_n1, nI_1 V]
    refine br_t ?_ (ih hm' (fun c h1 h2 h3 => (g c h1 h2 h3).trans (hs c h1 h2 h3)))
    rw [bI_0]
    cases b
    · rfl
    · exact absurd (hb.mp rfl) (hno V hV)
theorem str_iff {d : HI} {n : Nat} {h0 : HL} {v0 : Nat → Nat} (hB : MB d n h0 v0) (K : Nat) : (∃ σ, σ < 2 ^ tot d (nI 2) n ∧ nr (sy d n h0) (K + 1) σ ∧ SX (sy d n h0) (K + 1) (fun _ => False) σ) ↔ ∃ V, V < 2 ^ (tof d (TA d n true) n + (K + 2) * tot d (nI 1) n) ∧ SMd d n h0 v0 K V := by
  obtain ⟨hF, hBD, hLA, hS6, hI2, v1, v2, v3⟩ := id hB
  refine ⟨fun ⟨σ, hσ, hn, hs⟩ => ?_, fun ⟨V, hV, hS⟩ => ⟨_, st_lt hF v1 true _, PT_nr (sy_ok d n h0) (SM_PT hS), SM_SX (sy_ok d n h0) hS⟩⟩
  obtain ⟨x, hx, hS⟩ := SX_SM (sy_ok d n h0) hn (fun z => z) hs
  obtain ⟨c, hc, ec⟩ := st_surT hF v1 hσ
  have hx' : x < 2 ^ ((K + 2) * tot d (nI 1) n) := hx
  refine ⟨x + c * 2 ^ ((K + 2) * tot d (nI 1) n), ?_, ?_⟩
  · have : (c + 1) * 2 ^ ((K + 2) * tot d (nI 1) n) ≤ 2 ^ tof d (TA d n true) n * 2 ^ ((K + 2) * tot d (nI 1) n) := Nat.mul_le_mul_right _ hc
    rw [Nat.add_mul, Nat.one_mul, ← Nat.pow_add] at this
    omega
  · unfold SMd
    have e1 : (x + c * 2 ^ ((K + 2) * tot d (nI 1) n)) / 2 ^ ((K + 2) * tot d (nI 1) n) = c := by
      rw [Nat.add_mul_div_right _ _ (Nat.two_pow_pos _), Nat.div_eq_of_lt hx', Nat.zero_add]
    rw [e1, ec]
    exact SM_cg (fun j hj => (dgt_low (r := K + 2) (by omega)).symm) hS
theorem prove_ok {hm hx : HI} {hl hlm : HL} (x : Int32) (hR : Rel hm hx hl) : wpC_prove x hx hl (fun r hx' hl' => wpM_prove x hm hlm (fun r' hm' _ => r = r' ∧ Rel hm' hx' hl')) := by
  have hR' := hR
  obtain ⟨n, m, run, hA, hT, hRn, hK⟩ := hR
  have hF := hA.1
  have hn := hF.1.1
  have hRL := RelA_R hA
  have ref : ¬ (0 ≤ x ∧ x ≤ 2) → wpM_prove x hm hlm (fun r' hm' _ => -2 = r' ∧ Rel hm' hx hl) := fun q => by
    unfold wpM_prove wbM_prove_0
    rw [pM_in, decide_eq_false q]
    exact br_t rfl ⟨rfl, hR'⟩
  unfold wpC_prove wbC_prove_0
  refine br_c (fun q => ref (fun z => ?_)) (fun q => br_c (fun q3 => ?_) (fun q3 => ref (fun z => q3 z.2)))
  · rw [← i32_nle] at q; exact q z.1
  · obtain ⟨k, hk, rfl⟩ := i02 q q3
    obtain ⟨v0, hB⟩ := MB_of hA
    obtain ⟨_, hBD, hLA, hS6, hI2, v1, v2, v3⟩ := id hB
    obtain ⟨hW, _, _, hI, hP⟩ := hA.2.2.2.2
    have e2 : (2 : Int32) = nI 2 := rfl
    have hin : decide ((0 : Int32) ≤ nI k ∧ nI k ≤ 2) = true := in_03 (K := 2) hk (by omega)
    refine pX_leastBad hF ⟨hA.2.2.2.1, hP⟩ hI v0 v1 v2 v3 k (by omega) (fun hl' g1 g2 g3 => ?_) (fun D hD hless σ hσ hS hmin y hy hL hl' g1 hx' x1 x2 x3 => ?_)
    · refine br_t rfl ?_
      rw [nI_1 k]
      have hB' : XB hm n (u2 hx 20 4 0) := XB_x hn ⟨hA.2.2.2.1, hP⟩ (fun k _ => u2_cf _ _ _ (by omega)) (u2_cf _ _ _ (by decide))
      refine pX_hasStretch hB' g1 (k + 1) (by omega) (fun q hq => g2 q (by omega)) (fun b hl2 g4 hb => ?_)
      rw [str_iff hB k] at hb
      have fin : ∀ hm', G20 (u2 hm 0 25 (-1)) hm' → Rel hm' (u2 hx 20 4 0) hl2 := fun hm' g => by
        have g00 : hm' 0 = u2 hm 0 25 (-1) 0 := g 0 (by decide) (by decide) (by decide)
        exact Rel_F (fun c h1 h2 h3 h0 => by rw [g c h1 h2 h3, u2_cf _ _ _ h0]) (fun s h1 _ => by rw [g00, u2_j _ _ _ _ h1]) (fun c h1 _ _ => u2_cf _ _ _ h1) g4 hA hT hRn (Or.inl ⟨by rw [g00, u2_s], u2_s _ _ _ _⟩)
      have mM : ∀ Ψ : Int32 → HI → HL → Prop, (∀ hm1, G17 (u2 hm 0 25 (-1)) hm1 → ∃ fu, wbM_prove_33 fu (nI k) (nI (tof hm (TA hm n true) n + (k + 2) * tot hm (nI 1) n)) 0 hm1 hlm Ψ) → wpM_prove (nI k) hm hlm Ψ := fun Ψ hΨ => by
        unfold wpM_prove wbM_prove_0
        rw [pM_in, hin]
        refine br_f (by decide) (pM_find0 hB hRL k (by omega) (fun D hD V hV => fnd_less hB (fun q hq => g3 q (by omega)) V hV) (fun hm1 g => br_t (by decide) ?_))
        rw [nI_1 k]
        have hR1 : RL hm hm1 n := RL_G (RL_u hRL 25 (-1) (by decide)) g
        exact pM_places hF.1 hR1 true (k + 1) (hΨ hm1 g)
      refine br_c (fun z => ?_) (fun z => ?_)
      · rw [bI_0] at z
        refine mM _ (fun hm1 g => ?_)
        refine pr33n hB (RL_G (RL_u hRL 25 (-1) (by decide)) g) k hk (fun V hV hS => ?_) (fun hm' g5 => ⟨rfl, fin hm' (fun c h1 h2 h3 => (g5 c h1 h2 h3).trans (g c h1 h2))⟩)
        rw [hb.mpr ⟨V, hV, hS⟩] at z; exact absurd z (by decide)
      · rw [bI_ne] at z
        obtain ⟨V0, hV0, hS0⟩ := hb.mp z
        obtain ⟨W, hW1, hW2⟩ := pk_least (fun V => SMd hm n hl v0 k V) ⟨V0, hS0⟩
        have hWV : W ≤ V0 := by
          by_cases c : W ≤ V0
          · exact c
          · exact absurd hS0 (hW2 V0 (by omega))
        refine mM _ (fun hm1 g => ?_)
        exact pr33s hB (RL_G (RL_u hRL 25 (-1) (by decide)) g) k hk W (by omega) hW1 hW2 (fun hm' g5 => ⟨rfl, fin hm' (fun c h1 h2 h3 => (g5 c h1 h2 h3).trans (g c h1 h2))⟩)
    · obtain ⟨W, w1, w2, w3, w4⟩ := fnd_some hB (by omega) hless hσ hS hmin hy hL
      have hp := p2_14 (p_14 hB false (show D ≤ 3 by omega))
      refine br_f (fun z => ?_) ?_
      · have hp0 : (0 : Int32) ≤ nI D := nI_pos' (by omega)
        rw [z] at hp0; exact absurd hp0 (by decide)
      · dsimp only
        unfold wpM_prove wbM_prove_0
        rw [pM_in, hin]
        refine br_f (by decide) (pM_find1 hB hRL k (by omega) D hD (fun q hq V hV => fnd_less hB (fun q' hq' => hless q' (by omega)) V hV) W w1 w2 w3 (fun hm' g => br_f (nI_pos (by omega)) ⟨rfl, ?_⟩))
        have g00 : hm' 0 = u2 hm 0 25 (-1) 0 := g 0 (by decide) (by decide)
        refine Rel_F (fun c h1 h2 h3 h0 => by rw [u2_cf _ _ _ h0, u2_cf _ _ _ h0, g c h1 h2, u2_cf _ _ _ h0]) (fun s h1 h2 => by rw [u2_j _ _ _ _ h2, u2_j _ _ _ _ h1, g00, u2_j _ _ _ _ h1]) x1 g1 hA hT hRn (Or.inr ⟨D, W, _, _, by omega, ?_, u2_s _ _ _ _, by omega, x2, x3, w4⟩)
        rw [u2_j _ _ _ _ (by decide), u2_s]
/-! shown -/
theorem ia_is {d : HI} {n V r ι : Nat} (hι : ι < 2 ^ tot d (nI 1) n) (h : ∀ k, k < n → d 5 k = 1 → fld d ι k = V / 2 ^ ((r + 1) * tot d (nI 1) n - tot d (nI 1) (k + 1)) % 2 ^ bts (nk d k)) : ia d n (dgt (tot d (nI 1) n) V r) = ι :=
  fld_inj (ia_lt d n _) hι (fun k hk e => by rw [h k hk e, ia_dg hk e])
theorem pM_shown {d hm : HI} {n : Nat} {hl hz : HL} {v0 : Nat → Nat} {Φ : Int32 → HI → HL → Prop} (hB : MB d n hz v0) (hR : RL d hm n) (D V : Nat) (σ ι : Nat → Nat) (hD : D ≤ 3) (e25 : hm 0 25 = nI D) (e26 : hm 0 26 = nI V) (hV : V < 2 ^ 31) (hRun : RunOf d n V D σ ι) (x : Int32) (t : Nat) (ht : t ≤ D)
    (h0 : NY d n x = -1 → Φ (-1) hm hl) (h1 : ∀ k, k < n → NY d n x = nI k → nod (d 5 k) → ∀ v hm', G17 hm hm' → Asg d n v (σ t) (ι t) → Φ (nI (v k)) hm' hl) : wpM_shown (nI t) x hm hl Φ := by
  obtain ⟨hF, hBD, hLA, hS6, hI2, v1, v2, v3⟩ := id hB
  have hn := hF.1.1
  obtain ⟨r1, r2, r3, r4⟩ := hRun
  have hbI : ∀ q, q ≤ 4 → q * tot d (nI 1) n ≤ 8 := fun q hq => by
    have : q * tot d (nI 1) n ≤ 4 * 2 := Nat.mul_le_mul hq hI2
    omega
  have hio : ∀ s, s ≤ D → ia d n (dgt (tot d (nI 1) n) V (D - s)) = ι s := fun s hs => ia_is (r4 s hs).2 (fun k hk e => by
    rw [r2 s hs k hk e]
    have e2 : (D + 1) * tot d (nI 1) n = (D - s + 1) * tot d (nI 1) n + s * tot d (nI 1) n := by
      rw [← Nat.add_mul]; congr 1; omega
    have e3 : plc d n D - cbs d n - s * tot d (nI 1) n = (D - s + 1) * tot d (nI 1) n := by
      unfold plc; omega
    rw [e3])
  unfold wpM_shown wbM_shown_0
  refine pM_lineOf _ _ _ _ n hR.1 hn ?_
  rw [lof_congr (g := d 4) _ (fun k hk => hR.2 4 (by omega) (by omega) k hk)]
  unfold NY at h0 h1
  rcases lof_cases (d 4) x n with ⟨a, _⟩ | ⟨k, hk, _, e⟩
  · rw [a] at h0 ⊢
    refine pM_isNode (-1) (Or.inl (by decide)) ?_
    refine br_t (by rw [bI_0, decide_eq_false_iff_not]; exact fun y => absurd y.1 (by decide)) (h0 ?_)
    rw [if_neg (fun y => absurd y.1 (by decide))]
  · rw [e] at h0 h1 ⊢
    rw [nI_clamp (by omega)] at h0 h1
    have hp : (0 : Int32) ≤ nI k := nI_pos' (by omega)
    refine pM_isNode (nI k) (Or.inr ⟨k, by omega, rfl⟩) ?_
    rw [nI_clamp (by omega), hR.2 5 (by omega) (by omega) k hk]
    refine br_c (fun z => h0 ?_) (fun z => ?_)
    · rw [bI_0, decide_eq_false_iff_not] at z
      rw [if_neg (fun y => z ⟨hp, y.2.1, y.2.2⟩)]
    · rw [bI_ne, decide_eq_true_eq] at z
      have hno : nod (d 5 k) := ⟨z.2.1, z.2.2⟩
      rw [pM_in, e25, in_03 ht (by omega)]
      refine br_f (by decide) (pM_places hF.1 hR false D ?_)
      rw [e26]
      have ht0 := tofT_tot (d := d) (n := n) false n
      have hb := hbI (D + 1) (by omega)
      refine pM_start hF hR false V _ hV (by omega) (by omega) (fun w0 hm1 w1 w2 w3 g1 hx1 => ?_)
      have ee : tof d (TA d n false) n + (D + 1) * tot d (nI 1) n - tof d (TA d n false) n = (D + 1) * tot d (nI 1) n := by omega
      rw [ee, g1 0 (by decide) (by decide), e26]
      refine pM_put hF (RL_G hR g1) V D (σ 0) hV (by omega) (fun k hk e => ?_) (fun v hm2 g2 hS hA => ?_)
      · rw [hx1 k hk (fre_2 e), r1 k hk e w0 w1 w2 w3]; rfl
      · have hA0 : Asg d n v (σ 0) (ι 0) := by
          have := hio 0 (by omega)
          rw [Nat.sub_zero] at this
          rw [← this]; exact hA
        have fin : ∀ q s, s + q = t + 1 → 1 ≤ s → ∀ v hm', G17 hm hm' → SV d n hm' v → Asg d n v (σ (s - 1)) (ι (s - 1)) → wbM_shown_67 (q + 1) (nI t) (nI k) (nI ((D + 1 - s) * tot d (nI 1) n)) (nI s) hm' hl Φ := by
          intro q
          induction q with
          | zero =>
            intro s hs h1s v hm' g hS hA
            unfold wbM_shown_67
            rw [nI_clamp (by omega), hS.1 k hk hno]
            refine br_t (nI_lt (by omega) (by omega)) ⟨vp_in_nI (by omega) (by omega), h1 k hk (by rw [if_pos ⟨hp, hno.1, hno.2⟩]) hno v hm' g ?_⟩
            have : s - 1 = t := by omega
            rw [this] at hA; exact hA
          | succ q ih =>
            intro s hs h1s v hm' g hS hA
            unfold wbM_shown_67
            refine br_f (nI_nlt (by omega) (by omega)) (pM_advance hF (RL_G hR g) v hS (fun hm3 g3 hx3 => ?_))
            have g4 := G_t g g3
            rw [g4 0 (by decide) (by decide), e26]
            have e4 : D + 1 - s = D - s + 1 := by omega
            rw [e4]
            refine pM_put hF (RL_G hR g4) V (D - s) (σ s) hV (by have := hbI (D - s + 1) (by omega); omega) (fun k hk e => ?_) (fun v' hm4 g5 hS' hA' => ?_)
            · have e5 : s - 1 + 1 = s := by omega
              have := r3 (s - 1) (by omega) v hA k hk e
              rw [e5] at this
              rw [hx3 k hk (fre_2 e).1, this]
            · rw [nI_n1, nI_1 s]
              rw [hio s (by omega)] at hA'
              have e6 : D - s = D + 1 - (s + 1) := by omega
              rw [e6]
              exact ih (s + 1) (by omega) (by omega) v' hm4 (G_t g4 g5) hS' hA'
        refine ⟨t + 1, ?_⟩
        have := fin t 1 (by omega) (by omega) v hm2 (G_t g1 g2) hS hA0
        have e7 : D + 1 - 1 = D := by omega
        rw [e7] at this
        exact this
theorem shown_ok {hm hx : HI} {hl hlm : HL} (s x : Int32) (hR : Rel hm hx hl) : wpC_shown s x hx hl (fun r hx' hl' => wpM_shown s x hm hlm (fun r' hm' _ => r = r' ∧ Rel hm' hx' hl')) := by
  have hR' := hR
  obtain ⟨n, m, run, hA, hT, hRn, hK⟩ := hR
  have hF := hA.1
  have hn := hF.1.1
  have hRL := RelA_R hA
  have no : ¬ (0 ≤ s ∧ s ≤ hm 0 25) → wpM_shown s x hm hlm (fun r' hm' _ => -1 = r' ∧ Rel hm' hx hl) := fun q => by
    unfold wpM_shown wbM_shown_0
    refine pM_lineOf _ _ _ _ n hRL.1 hn ?_
    have key : ∀ b : Bool, (bI b = 0 → (-1 : Int32) = -1 ∧ Rel hm hx hl) ∧ (¬ bI b = 0 → wpM_in s 0 (hm 0 25) hm hlm (fun r7 hi8 hl9 => (r7 = 0 → (-1 : Int32) = -1 ∧ Rel hi8 hx hl) ∧ (¬ r7 = 0 → wpM_places (hi8 0 25) 0 hi8 hl9 (fun r10 hi11 hl12 => wpM_start (hi11 0 26) r10 0 hi11 hl12 (fun r13 hi14 hl15 => wpM_put (hi14 0 26) r13 hi14 hl15 (fun r16 hi17 hl18 => ∃ fu, wbM_shown_67 fu s (lof (hm 4) x n) r16 1 hi17 hl18 (fun r' hm' _ => -1 = r' ∧ Rel hm' hx hl))))))) := fun b => by
      refine br_c (fun _ => ⟨rfl, hR'⟩) (fun _ => ?_)
      rw [pM_in, decide_eq_false q]
      exact br_t rfl ⟨rfl, hR'⟩
    rcases lof_cases (hm 4) x n with ⟨a, _⟩ | ⟨k, hk, _, e⟩
    · rw [a] at key ⊢
      exact pM_isNode (-1) (Or.inl (by decide)) (key _)
    · rw [e] at key ⊢
      exact pM_isNode (nI k) (Or.inr ⟨k, by omega, rfl⟩) (key _)
  unfold wpC_shown wbC_shown_0
  refine br_c (fun q => no (fun z => ?_)) (fun q => br_c (fun q3 => ?_) (fun q3 => no (fun z => ?_)))
  · rw [← i32_nle] at q; exact q z.1
  · rcases hK with ⟨k1, k2⟩ | ⟨D, V, σ, ι, hD, k1, k2, hV, k4, k5, k6⟩
    · rw [k2] at q3; exact absurd q3 q
    · rw [k4] at q3
      have : ∃ t, t < D + 1 ∧ s = nI t := by
        rcases pk_ix s (n := D + 1) (by omega) with a | a | a
        · exact absurd a q
        · rw [← i32_nlt] at a; exact absurd q3 a
        · exact a
      obtain ⟨t, ht, rfl⟩ := this
      obtain ⟨v0, hB⟩ := MB_of hA
      obtain ⟨hW, _, _, hI, hP⟩ := hA.2.2.2.2
      obtain ⟨j1, j2⟩ := k5 t (by omega)
      obtain ⟨b1, b2⟩ := k6.2.2.2 t (by omega)
      have hv : vp_in (nI t) 4 := vp_in_nI (by omega) (by omega)
      rw [nI_clamp (by omega), j1, j2]
      refine ⟨hv, hv, pX_valueOf hF hA.2.2.2.1 hW (st_64 hP b1) (in_4 hP b2) x (fun e => ?_) (fun k hk e hno v hv => ?_)⟩
      · refine pM_shown hB hRL D V σ ι hD k1 k2 hV k6 x t (by omega) (fun _ => ⟨rfl, hR'⟩) (fun k hk e' => ?_)
        rw [e] at e'
        have hp : (0 : Int32) ≤ nI k := nI_pos' (by omega)
        rw [← e'] at hp; exact absurd hp (by decide)
      · refine pM_shown hB hRL D V σ ι hD k1 k2 hV k6 x t (by omega) (fun e' => ?_) (fun k' hk' e' hno' v' hm' g hA' => ⟨?_, Rel_G g hR'⟩)
        · rw [e] at e'
          have hp : (0 : Int32) ≤ nI k := nI_pos' (by omega)
          rw [e'] at hp; exact absurd hp (by decide)
        · have : k' = k := (nI_eq (by omega) (by omega)).mp (e'.symm.trans e)
          subst this
          rw [asg_u hF hv hA' k' hk hno]
  · rcases hK with ⟨k1, k2⟩ | ⟨D, V, σ, ι, hD, k1, k2, hV, k4, k5, k6⟩
    · rw [k1] at z
      exact absurd (Int32.le_trans z.1 z.2) (by decide)
    · rw [k4] at q3
      rw [k1] at z
      refine q3 (Int32.lt_of_le_of_lt z.2 (nI_lt (by omega) (by omega)))
