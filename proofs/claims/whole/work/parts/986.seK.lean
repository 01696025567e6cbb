/-! X: keep, starts, leastOf -/
/-- the states of the run that a number means -/
def sg (y : Sy) (D σ x : Nat) : Nat → Nat
  | 0 => σ
  | t + 1 => yA y (sg y D σ x t) (yi y x (D - t))
theorem LT_1 {y : Sy} : ∀ {r σ V : Nat}, LT y r σ V → ldx y r σ (yi y V r) ∧ ∀ m, m < dgt (yI y) V r → ¬ ldx y r σ (yN y m)
  | 0, _, _, h => h
  | r + 1, _, _, h => ⟨h.1, h.2.1⟩
theorem LT_2 {y : Sy} {r σ V : Nat} (h : LT y (r + 1) σ V) : LT y r (yA y σ (yi y V (r + 1))) V := h.2.2
theorem sg_lt {d : HI} {n : Nat} {h0 : HL} {D σ x : Nat} (hσ : σ < 2 ^ tot d (nI 2) n) : ∀ t, sg (sy d n h0) D σ x t < 2 ^ tot d (nI 2) n
  | 0 => hσ
  | t + 1 => AF_lt _ _ _ _
theorem XB_x {d hx hx' : HI} {n : Nat} (hn : n ≤ 20) (hB : XB d n hx) (x1 : ∀ k, k < 20 → hx' (24 + k) = hx (24 + k)) (x5 : hx' 5 = hx 5) : XB d n hx' := by
  refine ⟨RXL_x x1 x5 hn hB.1, fun k hk e => ?_, fun k h1 h2 => ?_, hB.2.2.2⟩
  · rw [x1 k (by omega)]; exact hB.2.1 k hk e
  · rw [x1 k h2]; exact hB.2.2.1 k h1 h2
theorem pX_keep {d hx : HI} {n : Nat} {h0 hl : HL} {Φ : HI → HL → Prop} (hF : WF d n) (hB : XB d n hx) (hH : XH h0 hl) (D σ x : Nat) (hD : D ≤ 3) (hσ : σ < 2 ^ tot d (nI 2) n) (hN : ∀ q, q < D → NRr (sy d n h0) (tot d (nI 2) n) hl q) (hL : LT (sy d n h0) D σ x)
    (h : ∀ hx', (∀ c, c ≠ 20 → c ≠ 22 → c ≠ 23 → hx' c = hx c) → hx' 20 4 = nI (D + 1) → (∀ t, t ≤ D → hx' 22 t = nI (sg (sy d n h0) D σ x t) ∧ hx' 23 t = nI (yi (sy d n h0) x (D - t))) → Φ hx' hl) : wpS_keep (nI σ) (nI D) hx hl Φ := by
  have hn := hF.1.1
  have hI2 := hB.2.2.2.1
  unfold wpS_keep wbS_keep_0
  refine loop_0 (fun fu t (s : Int32 × HI) => wbS_keep_5 fu (nI D) s.1 (nI t) s.2 hl Φ) (fun t s => s.1 = nI (sg (sy d n h0) D σ x t) ∧ (∀ c, c ≠ 20 → c ≠ 22 → c ≠ 23 → s.2 c = hx c) ∧ (∀ j, j < t → s.2 22 j = nI (sg (sy d n h0) D σ x j) ∧ s.2 23 j = nI (yi (sy d n h0) x (D - j))) ∧ (t ≤ D → LT (sy d n h0) (D - t) (sg (sy d n h0) D σ x t) x)) (D + 1) (nI σ, hx) ⟨rfl, fun _ _ _ _ => rfl, fun j hj => absurd hj (by omega), fun _ => hL⟩ (fun fu s hs => ?_) (fun fu t s ht hs ih => ?_)
  · obtain ⟨s1, s2, s3, s4⟩ := hs
    unfold wbS_keep_5
    rw [nI_1 D]
    refine br_t (nI_lt (by omega) (by omega)) (h _ (fun c h1 h2 h3 => by rw [u2_cf _ _ _ h1]; exact s2 c h1 h2 h3) (u2_s _ _ _ _) (fun t ht => ?_))
    rw [u2_cf _ _ _ (by decide), u2_cf _ _ _ (by decide)]
    exact s3 t (by omega)
  · obtain ⟨s1, s2, s3, s4⟩ := hs
    have hLt := s4 (by omega)
    obtain ⟨l1, l2⟩ := LT_1 hLt
    have hst := sg_lt (d := d) (n := n) (h0 := h0) (D := D) (x := x) hσ t
    have hvt : vp_in (nI t) 4 := vp_in_nI (by omega) (by omega)
    unfold wbS_keep_5
    rw [nI_clamp (by omega), s1, pk_sub (by omega)]
    have hB1 : XB d n (u2 s.2 22 t (nI (sg (sy d n h0) D σ x t))) := XB_x hn hB (fun k _ => by rw [u2_cf _ _ _ (by omega)]; exact s2 _ (by omega) (by omega) (by omega)) (by rw [u2_cf _ _ _ (by decide)]; exact s2 5 (by decide) (by decide) (by decide))
    refine br_f (nI_nlt (by omega) (by omega)) ⟨hvt, pX_leastInput hF hB1 hH (D - t) _ (by omega) hst (fun q hq => hN q (by omega)) (PT_nr (sy_ok d n h0) (LT_PT hLt)) (fun m hm m1 m2 => ⟨hvt, hvt, ?_⟩)⟩
    have em : m = dgt (tot d (nI 1) n) x (D - t) := by
      have a1 : ¬ m < dgt (tot d (nI 1) n) x (D - t) := fun z => l2 m z m1
      have a2 : ¬ dgt (tot d (nI 1) n) x (D - t) < m := fun z => m2 _ z l1
      omega
    have ei : ia d n m = yi (sy d n h0) x (D - t) := by rw [em]; rfl
    rw [ei] 
    have hB2 : XB d n (u2 (u2 s.2 22 t (nI (sg (sy d n h0) D σ x t))) 23 t (nI (yi (sy d n h0) x (D - t)))) := XB_x hn hB1 (fun k _ => by rw [u2_cf _ _ _ (by omega)]) (by rw [u2_cf _ _ _ (by decide)])
    have hyi : yi (sy d n h0) x (D - t) < 2 ^ tot d (nI 1) n := ia_lt d n _
    rw [u2_s]
    refine pX_after (tot d (nI 2) n) _ _ hB2.2.2.2.2 hB2.1.2.2.1 (st_64 hB.2 hst) (in_4 hB.2 hyi) ?_
    have eA : AF hl (tot d (nI 2) n) (sg (sy d n h0) D σ x t) (yi (sy d n h0) x (D - t)) = sg (sy d n h0) D σ x (t + 1) := by
      show AF hl (tot d (nI 2) n) (sg (sy d n h0) D σ x t) (yi (sy d n h0) x (D - t)) = AF h0 (tot d (nI 2) n) (sg (sy d n h0) D σ x t) (yi (sy d n h0) x (D - t))
      unfold AF; rw [hH 7 (by decide)]
    rw [eA, nI_n1, nI_1 t]
    refine ih (nI (sg (sy d n h0) D σ x (t + 1)), u2 (u2 s.2 22 t (nI (sg (sy d n h0) D σ x t))) 23 t (nI (yi (sy d n h0) x (D - t)))) ⟨rfl, fun c h1 h2 h3 => ?_, fun j hj => ?_, fun ht1 => ?_⟩ <;> try dsimp only
    · rw [u2_cf _ _ _ h3, u2_cf _ _ _ h2]; exact s2 c h1 h2 h3
    · by_cases z : j = t
      · subst z
        refine ⟨?_, u2_s _ _ _ _⟩
        rw [u2_c _ _ _ _ (by decide), u2_s]
      · rw [u2_j _ _ _ _ z, u2_j _ _ _ _ z, u2_j _ _ _ _ z, u2_j _ _ _ _ z]
        exact s3 j (by omega)
    · have e1 : D - t = D - (t + 1) + 1 := by omega
      rw [e1] at hLt
      have := LT_2 hLt
      rw [← e1] at this
      exact this
/-! X: the states that a run may start from -/
def Sta (d : HI) (n : Nat) (v0 : Nat → Nat) (m τ : Nat) : Prop := ∀ k, k < m → d 5 k = 2 → chs d n k = false → fld d τ k = ivl d v0 n k
theorem bt_v : ∀ u, u ∈ List.range 64 → ∀ j, j ∈ List.range 6 → bt (nI u).toInt64 j = u.testBit j := by decide +kernel
theorem fld_tb {d : HI} {y k j : Nat} (h : j < bts (nk d k)) : (fld d y k).testBit j = y.testBit (pl d k + j) := by
  unfold fld
  rw [Nat.testBit_mod_two_pow, Nat.testBit_div_two_pow, decide_eq_true h, Bool.true_and, Nat.add_comm]
theorem fld_ext {d : HI} {y k x : Nat} (hx : x < 2 ^ bts (nk d k)) : fld d y k = x ↔ ∀ j, j < bts (nk d k) → y.testBit (pl d k + j) = x.testBit j := by
  refine ⟨fun h j hj => by rw [← h, fld_tb hj], fun h => Nat.eq_of_testBit_eq (fun j => ?_)⟩
  by_cases c : j < bts (nk d k)
  · rw [fld_tb c, h j c]
  · rw [Nat.testBit_lt_two_pow (Nat.lt_of_lt_of_le (fld_lt d y k) (Nat.pow_le_pow_right (by omega) (by omega))), Nat.testBit_lt_two_pow (Nat.lt_of_lt_of_le hx (Nat.pow_le_pow_right (by omega) (by omega)))]
theorem pX_starts {d hx : HI} {n : Nat} {hl : HL} {Φ : Int64 → HI → HL → Prop} (hF : WF d n) (hB : XB d n hx) (hI : INI d n hx) (v0 : Nat → Nat) (v1 : VR d n v0) (v2 : Sett d n v0) (v3 : ∀ k, k < n → fre d k → v0 k = 0)
    (h : ∀ A, (∀ τ, τ < 64 → (bt A τ = true ↔ Sta d n v0 n τ)) → Φ A hx hl) : wpB_starts hx hl Φ := by
  have hn := hF.1.1
  unfold wpB_starts wbB_starts_0
  refine loop_0 (fun fu i (s : Int64) => wbB_starts_6 fu s (nI i) hx hl Φ) (fun i s => ∀ τ, τ < 64 → (bt s τ = true ↔ Sta d n v0 i τ)) n (-1) (fun τ hτ => by rw [bt_m1 hτ]; exact ⟨fun _ k hk => absurd hk (by omega), fun _ => rfl⟩) (fun m s hs => ?_) (fun m i s hi hs ih => ?_)
  · unfold wbB_starts_6
    exact br_t (by rw [hB.1.1]; exact nI_le (Nat.le_refl _) (by omega)) (h s hs)
  · obtain ⟨⟨κ, hκ, eκ⟩, l0, l1, l2, l3, l4⟩ := hB.1.2.2.2.2 i hi
    have hvi : vp_in (nI i) 20 := vp_in_nI (by omega) (by omega)
    have hvk : vp_in (d 5 i) 31 := by rw [eκ]; exact vp31 κ (by omega)
    unfold wbB_starts_6
    rw [nI_clamp (by omega), l1]
    have pass : ¬ (d 5 i = 2 ∧ chs d n i = false) → wbB_starts_106 (fun v1 v3 hi hl => wbB_starts_6 m v1 v3 hi hl Φ) s (nI i) hx hl Φ := fun q => by
      unfold wbB_starts_106
      rw [nI_n1, nI_1 i]
      refine ih s (fun τ hτ => ?_)
      rw [hs τ hτ]
      refine ⟨fun a k hk e c => ?_, fun a k hk => a k (by omega)⟩
      by_cases z : k = i
      · subst z; exact absurd ⟨e, c⟩ q
      · exact a k (by omega) e c
    refine br_f (by rw [hB.1.1]; exact nI_ge hi (by omega)) ⟨hvi, hvk, vp31 2 (by omega), br_c (fun e => br_c (fun q => pass ?_) (fun q => ?_)) (fun e => pass (fun z => e z.1))⟩
    · intro z
      have hq := (l4 e).1.mp q
      have : chs d n i = true := by unfold chs; rw [decide_eq_true e, hq]; rfl
      exact absurd (this.symm.trans z.2) (by decide)
    · have e' : d 5 i = nI 2 := e
      have hno := (fre_2 e).1
      have hq : hsq d (nI 27) (nI i) n = true := by
        cases z : hsq d (nI 27) (nI i) n
        · exact absurd ((l4 e).1.mpr z) q
        · rfl
      have hc : chs d n i = false := by unfold chs; rw [decide_eq_true e, hq]; rfl
      have p4 : hx (24 + i) 4 = nI (pl d i) := hB.2.1 i hi (Or.inr e)
      have hb6 := b_6 hB.2 hi e
      have hpl : pl d i = tot d (nI 2) i := pl_w e'
      have hiv := ivl_lt hF v1 (Nat.le_refl n) hi hno
      have h64 := p2_64 (show bts (nk d i) ≤ 6 by omega)
      have en : sc d (d 6 i).toNatClampNeg = nk d i := rfl
      have x5 := hI i hi e hq v0 v1 v2 v3
      refine loop_0 (fun fu j (p : Int64) => wbB_starts_45 (fun v1 v3 hi hl => wbB_starts_6 m v1 v3 hi hl Φ) fu p (nI i) i (nI j) hx hl Φ) (fun j p => ∀ τ, τ < 64 → (bt p τ = true ↔ Sta d n v0 i τ ∧ ∀ j', j' < j → τ.testBit (pl d i + j') = (ivl d v0 n i).testBit j')) (bts (nk d i)) s (fun τ hτ => by rw [hs τ hτ]; exact ⟨fun a => ⟨a, fun j' hj' => absurd hj' (by omega)⟩, fun a => a.1⟩) (fun m2 p hp => ?_) (fun m2 j p hj hp ih2 => ?_)
      · unfold wbB_starts_45 wbB_starts_106
        rw [(l3 hno).1, en, pX_bitsOf _ (n_7 hF.1 hi hno), nI_n1, nI_1 i]
        refine br_t (nI_le (Nat.le_refl _) (by omega)) (ih p (fun τ hτ => ?_))
        rw [hp τ hτ, ← fld_ext hiv]
        refine ⟨fun a k hk ek ck => ?_, fun a => ⟨fun k hk => a k (by omega), a i (by omega) e hc⟩⟩
        by_cases z : k = i
        · subst z; exact a.2
        · exact a.1 k (by omega) ek ck
      · unfold wbB_starts_45 wbB_starts_98
        rw [(l3 hno).1, en, pX_bitsOf _ (n_7 hF.1 hi hno), p4, nI_add, nI_clamp (by omega), x5, pX_has _ j (by omega), nI_n1, nI_1 j, bt_v _ (List.mem_range.mpr (by omega)) j (List.mem_range.mpr (by omega))]
        have lb := fun τ (hτ : τ < 64) => lanes_b (pl d i + j) (List.mem_range.mpr (by omega)) τ (List.mem_range.mpr hτ)
        refine br_f (nI_ge hj (by omega)) ⟨vp_in_nI (by omega) (by omega), br_c (fun z => ih2 _ (fun τ hτ => ?_)) (fun z => ih2 _ (fun τ hτ => ?_))⟩
        · rw [bI_0] at z
          rw [bt_and, bt_not hτ, lb τ hτ, Bool.and_eq_true, hp τ hτ]
          refine ⟨fun a => ⟨a.1.1, fun j' hj' => ?_⟩, fun a => ⟨⟨a.1, fun j' hj' => a.2 j' (by omega)⟩, ?_⟩⟩
          · by_cases y : j' = j
            · subst y; rw [z]; simpa using a.2
            · exact a.1.2 j' (by omega)
          · rw [a.2 j (by omega), z]; rfl
        · rw [bI_ne] at z
          rw [bt_and, lb τ hτ, Bool.and_eq_true, hp τ hτ]
          refine ⟨fun a => ⟨a.1.1, fun j' hj' => ?_⟩, fun a => ⟨⟨a.1, fun j' hj' => a.2 j' (by omega)⟩, ?_⟩⟩
          · by_cases y : j' = j
            · subst y; rw [z]; exact a.2
            · exact a.1.2 j' (by omega)
          · rw [a.2 j (by omega), z]
