/-! X: stretches, leastBad -/
theorem seen_eq {seen : Int64} {σ : Nat} (hσ : σ < 64) : (fun τ => bt (seen ||| ((1 : Int64) <<< ((nI σ).toInt64 &&& 63))) τ = true) = fun τ => bt seen τ = true ∨ τ = σ := by
  funext τ
  rw [bt_or, bt1 hσ, Bool.or_eq_true, decide_eq_true_eq]
theorem pX_stretches {d hx : HI} {n : Nat} {h0 hl : HL} (hB : XB d n hx) (hH : XH h0 hl) : ∀ (r fu σ : Nat) (seen : Int64) (Φ : Int32 → HI → HL → Prop), r < fu → r ≤ 4 → σ < 2 ^ tot d (nI 2) n → (∀ q, q < r → NRr (sy d n h0) (tot d (nI 2) n) hl q) → (∀ b, (b = true ↔ SX (sy d n h0) r (fun τ => bt seen τ = true) σ) → Φ (bI b) hx hl) → wpS_stretches fu (nI σ) seen (nI r) hx hl Φ := by
  have hI2 := hB.2.2.2.1
  have p2 : (2 : Nat) ^ tot d (nI 1) n ≤ 2 ^ 2 := Nat.pow_le_pow_right (by omega) hI2
  intro r
  induction r with
  | zero =>
    intro fu σ seen Φ hfu hr hσ hN h
    cases fu with
    | zero => omega
    | succ fu =>
      unfold wpS_stretches wbS_stretches_0
      exact br_f (by decide) ⟨i01_1, h true ⟨fun _ => trivial, fun _ => rfl⟩⟩
  | succ r ih =>
    intro fu σ seen Φ hfu hr hσ hN h
    cases fu with
    | zero => omega
    | succ fu =>
      have h64 := st_64 hB.2 hσ
      unfold wpS_stretches wbS_stretches_0
      refine br_t (nI_lt (a := 0) (by omega) (by omega)) ?_
      have es := seen_eq (seen := seen) h64
      refine loop_0 (fun f2 j (_ : Unit) => wbS_stretches_17 (wpS_stretches fu) f2 (nI σ) (nI (r + 1)) (seen ||| ((1 : Int64) <<< ((nI σ).toInt64 &&& 63))) (nI j) hx hl Φ) (fun j _ => ∀ ι, ι < j → ¬ (ldx (sy d n h0) (r + 1) σ ι ∧ ¬ (bt seen (yA (sy d n h0) σ ι) = true ∨ yA (sy d n h0) σ ι = σ) ∧ SX (sy d n h0) r (fun τ => bt seen τ = true ∨ τ = σ) (yA (sy d n h0) σ ι))) (2 ^ tot d (nI 1) n) () (fun ι hι => absurd hι (by omega)) (fun m _ hs => ?_) (fun m j _ hj hs ih2 => ?_)
      · unfold wbS_stretches_17
        rw [hB.1.2.1, sh_1 (by omega)]
        refine br_t (nI_le (Nat.le_refl _) (by omega)) ⟨i01_0, h false ⟨fun z => absurd z (by decide), fun ⟨ι, hι, a⟩ => absurd a (hs ι hι)⟩⟩
      · have no : ¬ (ldx (sy d n h0) (r + 1) σ j ∧ ¬ (bt seen (yA (sy d n h0) σ j) = true ∨ yA (sy d n h0) σ j = σ) ∧ SX (sy d n h0) r (fun τ => bt seen τ = true ∨ τ = σ) (yA (sy d n h0) σ j)) → wbS_stretches_82 (wpS_stretches fu) (fun v1 v4 v5 v7 hi hl => wbS_stretches_17 (wpS_stretches fu) m v1 v4 v5 v7 hi hl Φ) (nI σ) (nI (r + 1)) (seen ||| ((1 : Int64) <<< ((nI σ).toInt64 &&& 63))) (nI j) hx hl Φ := fun q => by
          unfold wbS_stretches_82
          rw [nI_n1, nI_1 j]
          refine ih2 () (fun ι hι => ?_)
          by_cases z : ι = j
          · subst z; exact q
          · exact hs ι (by omega)
        unfold wbS_stretches_17
        rw [hB.1.2.1, sh_1 (by omega)]
        refine br_f (nI_ge hj (by omega)) (pX_leads hB hH (r + 1) σ j (by omega) hσ hj (fun q hq => hN q (by omega)) (fun b hb => ?_))
        refine br_c (fun z => no (fun w => ?_)) (fun z => ?_)
        · rw [bI_0] at z
          rw [hb.mpr w.1] at z; exact absurd z (by decide)
        · rw [bI_ne] at z
          have hld := hb.mp z
          refine pX_after (tot d (nI 2) n) σ j hB.2.2.2.2 hB.1.2.2.1 h64 (in_4 hB.2 hj) ?_
          have eA : AF hl (tot d (nI 2) n) σ j = yA (sy d n h0) σ j := by
            show AF hl (tot d (nI 2) n) σ j = AF h0 (tot d (nI 2) n) σ j
            unfold AF; rw [hH 7 (by decide)]
          have hA : yA (sy d n h0) σ j < 2 ^ tot d (nI 2) n := AF_lt _ _ _ _
          rw [eA, pX_has _ _ (st_64 hB.2 hA)]
          have ep := congrFun es (yA (sy d n h0) σ j)
          refine br_c (fun y => ?_) (fun y => no (fun w => ?_))
          · rw [bI_0] at y
            rw [y] at ep
            rw [nI_pred]
            refine ih fu _ _ _ (by omega) (by omega) hA (fun q hq => hN q (by omega)) (fun b2 hb2 => ?_)
            rw [es] at hb2
            refine br_c (fun u => no (fun w => ?_)) (fun u => ⟨i01_1, h true ⟨fun _ => ⟨j, hj, hld, ?_, ?_⟩, fun _ => rfl⟩⟩)
            · rw [bI_0] at u
              rw [hb2.mpr w.2.2] at u; exact absurd u (by decide)
            · rw [← ep]; decide
            · rw [bI_ne] at u; exact hb2.mp u
          · rw [bI_ne] at y
            rw [y] at ep
            exact w.2.1 (ep ▸ rfl)
theorem pX_hasStretch {d hx : HI} {n : Nat} {h0 hl : HL} {Φ : Int32 → HI → HL → Prop} (hB : XB d n hx) (hH : XH h0 hl) (r : Nat) (hr : r ≤ 3) (hN : ∀ q, q < r → NRr (sy d n h0) (tot d (nI 2) n) hl q)
    (h : ∀ b hl', XH h0 hl' → (b = true ↔ ∃ σ, σ < 2 ^ tot d (nI 2) n ∧ nr (sy d n h0) r σ ∧ SX (sy d n h0) r (fun _ => False) σ) → Φ (bI b) hx hl') : wpS_hasStretch (nI r) hx hl Φ := by
  have p6 := p2_64 hB.2.2.2.2
  unfold wpS_hasStretch wbS_hasStretch_0
  refine pX_gather hB hH r hr hN (fun hl' hH' hN' => ?_)
  have e0 : (fun τ => bt 0 τ = true) = fun _ => False := by
    funext τ; rw [bt_0]; simp
  refine loop_0 (fun fu i (_ : Unit) => wbS_hasStretch_7 fu (nI r) (nI i) hx hl' Φ) (fun i _ => ∀ σ, σ < i → ¬ (nr (sy d n h0) r σ ∧ SX (sy d n h0) r (fun _ => False) σ)) (2 ^ tot d (nI 2) n) () (fun σ hσ => absurd hσ (by omega)) (fun m _ hs => ?_) (fun m i _ hi hs ih => ?_)
  · unfold wbS_hasStretch_7
    rw [hB.1.2.2.1, sh_1 (by have := hB.2.2.2.2; omega)]
    exact br_t (nI_le (Nat.le_refl _) (by omega)) ⟨i01_0, h false hl' hH' ⟨fun z => absurd z (by decide), fun ⟨σ, hσ, a⟩ => absurd a (hs σ hσ)⟩⟩
  · have no : ¬ (nr (sy d n h0) r i ∧ SX (sy d n h0) r (fun _ => False) i) → wbS_hasStretch_45 (fun v1 v2 hi hl => wbS_hasStretch_7 m v1 v2 hi hl Φ) (nI r) (nI i) hx hl' Φ := fun q => by
      unfold wbS_hasStretch_45
      rw [nI_n1, nI_1 i]
      refine ih () (fun σ hσ => ?_)
      by_cases z : σ = i
      · subst z; exact q
      · exact hs σ (by omega)
    unfold wbS_hasStretch_7
    rw [hB.1.2.2.1, sh_1 (by have := hB.2.2.2.2; omega), nI_clamp (by omega), pX_has _ i (by omega)]
    have key := hN' r (Nat.le_refl _) i (by omega)
    refine br_f (nI_ge hi (by omega)) ⟨vp_in_nI (by omega) (by omega), br_c (fun z => no (fun w => ?_)) (fun z => ?_)⟩
    · rw [bI_0] at z
      rw [key.mpr ⟨hi, w.1⟩] at z; exact absurd z (by decide)
    · rw [bI_ne] at z
      refine pX_stretches hB hH' r 5 i 0 _ (by omega) (by omega) hi (fun q hq => hN' q (by omega)) (fun b hb => ?_)
      rw [e0] at hb
      refine br_c (fun u => no (fun w => ?_)) (fun u => ⟨i01_1, h true hl' hH' ⟨fun _ => ⟨i, hi, (key.mp z).2, ?_⟩, fun _ => rfl⟩⟩)
      · rw [bI_0] at u
        rw [hb.mpr w.2] at u; exact absurd u (by decide)
      · rw [bI_ne] at u; exact hb.mp u
theorem pX_leastBad {d hx : HI} {n : Nat} {h0 : HL} {Φ : Int32 → HI → HL → Prop} (hF : WF d n) (hB : XB d n hx) (hI : INI d n hx) (v0 : Nat → Nat) (v1 : VR d n v0) (v2 : Sett d n v0) (v3 : ∀ k, k < n → fre d k → v0 k = 0) (k : Nat) (hk : k ≤ 3)
    (h1 : ∀ hl', XH h0 hl' → (∀ q, q ≤ k → NRr (sy d n h0) (tot d (nI 2) n) hl' q) → (∀ q, q ≤ k → ∀ σ, σ < 2 ^ tot d (nI 2) n → Sta d n v0 n σ → ¬ nr (sy d n h0) q σ) → Φ (-1) (u2 hx 20 4 0) hl')
    (h2 : ∀ D, D ≤ k → (∀ q, q < D → ∀ σ, σ < 2 ^ tot d (nI 2) n → Sta d n v0 n σ → ¬ nr (sy d n h0) q σ) → ∀ σ, σ < 2 ^ tot d (nI 2) n → Sta d n v0 n σ → (∀ τ, τ < 2 ^ tot d (nI 2) n → Sta d n v0 n τ → nr (sy d n h0) D τ → pkn d n σ ≤ pkn d n τ) → ∀ x, x < 2 ^ ((D + 1) * tot d (nI 1) n) → LT (sy d n h0) D σ x → ∀ hl', XH h0 hl' → ∀ hx', (∀ c, c ≠ 20 → c ≠ 22 → c ≠ 23 → hx' c = hx c) → hx' 20 4 = nI (D + 1) → (∀ t, t ≤ D → hx' 22 t = nI (sg (sy d n h0) D σ x t) ∧ hx' 23 t = nI (yi (sy d n h0) x (D - t))) → Φ (nI D) hx' hl') : wpS_leastBad (nI k) hx h0 Φ := by
  have hn := hF.1.1
  have p6 := p2_64 hB.2.2.2.2
  unfold wpS_leastBad wbS_leastBad_0 wpS_drop wbS_drop_0
  have xo : ∀ c, c ≠ 20 → u2 hx 20 4 0 c = hx c := fun c hc => u2_cf _ _ _ hc
  have hB' : XB d n (u2 hx 20 4 0) := XB_x hn hB (fun k _ => xo _ (by omega)) (xo 5 (by decide))
  have hI' : INI d n (u2 hx 20 4 0) := fun k hk e q v a b c => by rw [xo _ (by omega)]; exact hI k hk e q v a b c
  refine pX_starts hF hB' hI' v0 v1 v2 v3 (fun A hA => ?_)
  refine loop_0 (fun fu q (s : HL) => wbS_leastBad_15 fu (nI k) A (nI q) (u2 hx 20 4 0) s Φ) (fun q s => XH h0 s ∧ (∀ q', q' < q → NRr (sy d n h0) (tot d (nI 2) n) s q') ∧ ∀ q', q' < q → ∀ σ, σ < 2 ^ tot d (nI 2) n → Sta d n v0 n σ → ¬ nr (sy d n h0) q' σ) (k + 1) h0 ⟨fun _ _ => rfl, fun q hq => absurd hq (by omega), fun q hq => absurd hq (by omega)⟩ (fun m s hs => ?_) (fun m D s hD hs ih => ?_)
  · obtain ⟨s1, s2, s3⟩ := hs
    unfold wbS_leastBad_15
    exact br_t (nI_lt (by omega) (by omega)) (h1 s s1 (fun q hq => s2 q (by omega)) (fun q hq => s3 q (by omega)))
  · obtain ⟨s1, s2, s3⟩ := hs
    have hvD : vp_in (nI D) 4 := vp_in_nI (by omega) (by omega)
    unfold wbS_leastBad_15
    refine br_f (nI_nlt (by omega) (by omega)) (pX_gather hB' s1 D (by omega) s2 (fun hl' g1 g2 => ⟨hvD, ?_⟩))
    rw [nI_clamp (by omega), lg_cmp_eq, nI_n1, nI_1 D]
    have mem : ∀ τ, τ < 64 → (bt (A &&& hl' 21 D) τ = true ↔ Sta d n v0 n τ ∧ τ < 2 ^ tot d (nI 2) n ∧ nr (sy d n h0) D τ) := fun τ hτ => by
      rw [bt_and, Bool.and_eq_true, hA τ hτ, g2 D (Nat.le_refl _) τ hτ]
    refine br_c (fun z => ?_) (fun z => ⟨hvD, ?_⟩)
    · have hz := bt_z.mp z
      refine ih hl' ⟨g1, fun q hq => g2 q (by omega), fun q hq σ hσ hst hnr => ?_⟩
      by_cases y : q = D
      · subst y
        have := (mem σ (by omega)).mpr ⟨hst, hσ, hnr⟩
        rw [hz σ (by omega)] at this; exact absurd this (by decide)
      · exact s3 q (by omega) σ hσ hst hnr
    · have hne : ∃ τ, τ < 64 ∧ bt (A &&& hl' 21 D) τ = true := by
        refine Classical.byContradiction (fun hno => z (bt_z.mpr (fun τ hτ => ?_)))
        cases u : bt (A &&& hl' 21 D) τ
        · rfl
        · exact absurd ⟨τ, hτ, u⟩ hno
      refine pX_leastOf hF hB' _ hne (fun τ hτ ht => ((mem τ hτ).mp ht).2.1) (fun σ hσ hb hmin => ?_)
      obtain ⟨m1, m2, m3⟩ := (mem σ (by omega)).mp hb
      obtain ⟨x, hx1, hL⟩ := LT_ex (sy_ok d n h0) m3
      refine pX_keep hF hB' g1 D σ x (by omega) hσ (fun q hq => g2 q (by omega)) hL (fun hx' a1 a2 a3 => ?_)
      exact h2 D (by omega) s3 σ hσ m1 (fun τ hτ ht hn => hmin τ (by omega) ((mem τ (by omega)).mpr ⟨ht, hτ, hn⟩)) x hx1 hL hl' g1 hx' (fun c c1 c2 c3 => by rw [a1 c c1 c2 c3, xo c c1]) a2 a3
