/-! M: the run by hand -/
def FH (d : HI) (n : Nat) (hm : HI) (f : Nat → Nat) : Prop := ∀ k, k < n → fre d k → hm 19 k = nI (f k) ∧ f k < 2 ^ bts (nk d k)
def GH (hm hm' : HI) : Prop := ∀ c, c ≠ 17 → c ≠ 18 → c ≠ 19 → hm' c = hm c
theorem GH_G {a b : HI} (h : G17 a b) : GH a b := fun c h1 h2 _ => h c h1 h2
theorem GH_t {a b c : HI} (h : GH a b) (k : GH b c) : GH a c := fun x h1 h2 h3 => (k x h1 h2 h3).trans (h x h1 h2 h3)
theorem GH_u (hm : HI) (k : Nat) (x : Int32) : GH hm (u2 hm 19 k x) := fun c _ _ h => u2_cf _ _ _ h
theorem RL_GH {d hm hm' : HI} {n : Nat} (h : RL d hm n) (g : GH hm hm') : RL d hm' n :=
  ⟨by rw [g 0 (by decide) (by decide) (by decide)]; exact h.1, fun c h1 h2 k hk => by rw [g c (by omega) (by omega) (by omega)]; exact h.2 c h1 h2 k hk⟩
theorem pM_remember {d hm : HI} {n : Nat} {hl : HL} {Φ : HI → HL → Prop} (hn : n ≤ 20) (hR : RL d hm n) (f : Nat → Nat) (hV : FV d n hm f) (h : ∀ hm', GH hm hm' → FH d n hm' f → Φ hm' hl) : wpM_remember hm hl Φ := by
  unfold wpM_remember wbM_remember_0
  refine loop_0 (fun fu i (s : HI) => wbM_remember_2 fu (nI i) s hl Φ) (fun i s => GH hm s ∧ s 17 = hm 17 ∧ ∀ k, k < i → s 19 k = hm 17 k) n hm ⟨fun _ _ _ _ => rfl, rfl, fun k hk => absurd hk (by omega)⟩ (fun m s hs => ?_) (fun m i s hi hs ih => ?_)
  · obtain ⟨g, e17, hg⟩ := hs
    unfold wbM_remember_2
    refine br_t (by rw [(RL_GH hR g).1]; exact nI_le (Nat.le_refl _) (by omega)) (h s g (fun k hk hf => ?_))
    rw [hg k hk]; exact hV k hk hf
  · obtain ⟨g, e17, hg⟩ := hs
    unfold wbM_remember_2
    have hv : vp_in (nI i) 21 := vp_in_nI (by omega) (by omega)
    rw [nI_clamp (by omega), nI_n1, nI_1]
    refine br_f (by rw [(RL_GH hR g).1]; exact nI_ge hi (by omega)) ⟨hv, hv, ih _ ⟨GH_t g (GH_u _ _ _), ?_, fun k hk => ?_⟩⟩
    · rw [u2_cf _ _ _ (by decide)]; exact e17
    · by_cases z : k = i
      · subst z; rw [u2_s, e17]
      · rw [u2_j _ _ _ _ z]; exact hg k (by omega)
theorem pM_recall {d hm : HI} {n : Nat} {hl : HL} {Φ : HI → HL → Prop} (hF : WF d n) (hR : RL d hm n) (f : Nat → Nat) (hH : FH d n hm f) (h : ∀ v hm', G17 hm hm' → SV d n hm' v → (∀ k, k < n → fre d k → v k = f k) → Φ hm' hl) : wpM_recall hm hl Φ := by
  have hn := hF.1.1
  unfold wpM_recall wbM_recall_0
  refine loop_0 (fun fu i (s : HI) => wbM_recall_2 fu (nI i) s hl Φ) (fun i s => G17 hm s ∧ ∀ k, k < i → s 17 k = hm 19 k) n hm ⟨G_r hm, fun k hk => absurd hk (by omega)⟩ (fun m s hs => ?_) (fun m i s hi hs ih => ?_)
  · obtain ⟨g, hg⟩ := hs
    have hRs := RL_G hR g
    unfold wbM_recall_2
    refine br_t (by rw [hRs.1]; exact nI_le (Nat.le_refl _) (by omega)) ?_
    refine pM_settle' hF hRs f (fun k hk hf => ?_) (fun v hm' g1 hS hv => h v hm' (G_t g g1) hS hv)
    rw [hg k hk]; exact hH k hk hf
  · obtain ⟨g, hg⟩ := hs
    unfold wbM_recall_2
    have hv : vp_in (nI i) 21 := vp_in_nI (by omega) (by omega)
    rw [nI_clamp (by omega), nI_n1, nI_1]
    refine br_f (by rw [(RL_G hR g).1]; exact nI_ge hi (by omega)) ⟨hv, hv, ih _ ⟨G_t g (G_u _ _ _), fun k hk => ?_⟩⟩
    by_cases z : k = i
    · subst z; rw [u2_s, g 19 (by decide) (by decide)]
    · rw [u2_j _ _ _ _ z]; exact hg k (by omega)
def inT (d : HI) (k : Nat) : Bool := decide (d 5 k = 1)
theorem pM_feed {d hm : HI} {n : Nat} {hl : HL} {Φ : Int32 → HI → HL → Prop} (hF : WF d n) (hR : RL d hm n) (f : Nat → Nat) (hH : FH d n hm f) (hrun : hm 0 23 = 1) (hi6 : tof d (inT d) n ≤ 6) (y : Int32)
    (h : ∀ hm', GH hm hm' → FH d n hm' (dl d (inT d) y.toBitVec.toNat f) → Φ 1 hm' hl) : wpM_feed y hm hl Φ := by
  have hn := hF.1.1
  unfold wpM_feed wbM_feed_0
  refine br_f (by rw [hrun]; decide) ?_
  refine pM_recall hF hR f hH (fun v hm1 g1 hS hv => ?_)
  refine pM_deal hF (RL_G hR g1) false (inT d) (by rfl) hi6 y f (fun k hk hf _ => ⟨by rw [hS.1 k hk hf.1, hv k hk hf], (hH k hk hf).2⟩) (fun v2 hm2 g2 hS2 hv2 => ?_)
  refine pM_remember hn (RL_G hR (G_t g1 g2)) v2 (SV_FV hS2) (fun hm3 g3 hH3 => ⟨i01_1, h hm3 (GH_t (GH_G (G_t g1 g2)) g3) (fun k hk hf => ?_)⟩)
  have := hH3 k hk hf
  rw [hv2 k hk hf] at this; exact this
theorem pM_step {d hm : HI} {n : Nat} {hl : HL} {Φ : Int32 → HI → HL → Prop} (hF : WF d n) (hR : RL d hm n) (f : Nat → Nat) (hH : FH d n hm f) (hrun : hm 0 23 = 1) (hi6 : tof d (inT d) n ≤ 6)
    (h : ∀ v hm', VR d n v → Sett d n v → (∀ k, k < n → fre d k → v k = f k) → GH hm hm' → FH d n hm' (fun k => if d 5 k = 1 then 0 else nx d v n k) → Φ 1 hm' hl) : wpM_step hm hl Φ := by
  have hn := hF.1.1
  unfold wpM_step wbM_step_0
  refine br_f (by rw [hrun]; decide) ?_
  refine pM_recall hF hR f hH (fun v hm1 g1 hS hv => ?_)
  refine pM_advance hF (RL_G hR g1) v hS (fun hm2 g2 hx => ?_)
  refine pM_deal hF (RL_G hR (G_t g1 g2)) false (inT d) (by rfl) hi6 0 (nx d v n) (fun k hk hf _ => ⟨hx k hk hf.1, nx_lt hF hS.2.1 (Nat.le_refl _) hk hf.1⟩) (fun v2 hm3 g3 hS3 hv3 => ?_)
  refine pM_remember hn (RL_G hR (G_t g1 (G_t g2 g3))) v2 (SV_FV hS3) (fun hm4 g4 hH4 => ⟨i01_1, h v hm4 hS.2.1 hS.2.2 hv (GH_t (GH_G (G_t g1 (G_t g2 g3))) g4) (fun k hk hf => ?_)⟩)
  have := hH4 k hk hf
  rw [hv3 k hk hf] at this
  unfold dl inT at this
  by_cases c : d 5 k = 1
  · simp only [c, decide_true, if_true, if_pos] at this ⊢
    have e0 : (0 : Int32).toBitVec.toNat = 0 := by decide
    rw [e0, Nat.zero_div, Nat.zero_mod] at this
    exact this
  · simp only [c, decide_false, if_false, Bool.false_eq_true] at this ⊢
    exact this
theorem pM_begin {d hm : HI} {n : Nat} {hl : HL} {Φ : HI → HL → Prop} (hF : WF d n) (hR : RL d hm n) (hc6 : tof d (chs d n) n ≤ 6) (x : Int32)
    (h : ∀ v hm', VR d n v → Sett d n v → (∀ k, k < n → fre d k → v k = 0) → (∀ c, c ≠ 17 → c ≠ 18 → c ≠ 19 → hm' c = u2 hm 0 23 1 c) → FH d n hm' (dl d (chs d n) x.toBitVec.toNat (ivl d v n)) → Φ hm' hl) : wpM_begin x hm hl Φ := by
  have hn := hF.1.1
  unfold wpM_begin wbM_begin_0
  refine pM_initz hF hR (fun v hm1 hV hS hv g1 hx => ?_)
  refine pM_deal hF (RL_G hR g1) true (chs d n) (by rfl) hc6 x (ivl d v n) (fun k hk hf _ => ⟨hx k hk hf, ivl_lt hF hV (Nat.le_refl _) hk hf.1⟩) (fun v2 hm2 g2 hS2 hv2 => ⟨i01_1, ?_⟩)
  have g12 := G_t g1 g2
  have hR2 := RL_G hR g12
  have hR3 : RL d (u2 hm2 0 23 1) n := ⟨by rw [u2_j _ _ _ _ (by decide)]; exact hR2.1, fun c h1 h2 k hk => by rw [u2_c _ _ _ _ (by omega)]; exact hR2.2 c h1 h2 k hk⟩
  refine pM_remember hn hR3 v2 (fun k hk hf => by rw [u2_c _ _ _ _ (by decide)]; exact SV_FV hS2 k hk hf) (fun hm4 g4 hH4 => h v hm4 hV hS hv (fun c h1 h2 h3 => ?_) (fun k hk hf => ?_))
  · rw [g4 c h1 h2 h3]
    funext j
    simp only [u2_ap, g12 c h1 h2]
  · have := hH4 k hk hf
    rw [hv2 k hk hf] at this; exact this
theorem pM_value {d hm : HI} {n : Nat} {hl : HL} {Φ : Int32 → HI → HL → Prop} (hF : WF d n) (hR : RL d hm n) (run : Bool) (f : Nat → Nat) (hrun : hm 0 23 = bI run) (hH : run = true → FH d n hm f) (x : Int32)
    (h0 : run = false ∨ NY d n x = -1 → Φ (-1) hm hl) (h1 : run = true → ∀ k, k < n → NY d n x = nI k → nod (d 5 k) → ∀ v hm', G17 hm hm' → SV d n hm' v → (∀ k, k < n → fre d k → v k = f k) → Φ (nI (v k)) hm' hl) : wpM_value x hm hl Φ := by
  have hn := hF.1.1
  unfold wpM_value wbM_value_0
  refine pM_lineOf _ _ _ _ n hR.1 hn ?_
  rw [lof_congr (g := d 4) _ (fun k hk => hR.2 4 (by omega) (by omega) k hk), hrun]
  refine br_c (fun q => h0 (Or.inl (by rw [bI_0] at q; exact q))) (fun q => ?_)
  rw [bI_ne] at q
  unfold NY at h0 h1
  rcases lof_cases (d 4) x n with ⟨a, _⟩ | ⟨k, hk, _, e⟩
  · rw [a] at h0 ⊢
    refine pM_isNode (-1) (Or.inl (by decide)) ?_
    refine br_t (by rw [bI_0, decide_eq_false_iff_not]; exact fun y => absurd y.1 (by decide)) (h0 (Or.inr ?_))
    rw [if_neg (fun y => absurd y.1 (by decide))]
  · rw [e] at h0 h1 ⊢
    rw [nI_clamp (by omega)] at h0 h1
    have hp : (0 : Int32) ≤ nI k := nI_pos' (by omega)
    refine pM_isNode (nI k) (Or.inr ⟨k, by omega, rfl⟩) ?_
    rw [nI_clamp (by omega), hR.2 5 (by omega) (by omega) k hk]
    refine br_c (fun z => h0 (Or.inr ?_)) (fun z => ?_)
    · rw [bI_0, decide_eq_false_iff_not] at z
      rw [if_neg (fun y => z ⟨hp, y.2.1, y.2.2⟩)]
    · rw [bI_ne, decide_eq_true_eq] at z
      have hno : nod (d 5 k) := ⟨z.2.1, z.2.2⟩
      refine pM_recall hF hR f (hH q) (fun v hm' g hS hv => ⟨vp_in_nI (by omega) (by omega), ?_⟩)
      rw [hS.1 k hk hno]
      exact h1 q k hk (by rw [if_pos ⟨hp, hno.1, hno.2⟩]) hno v hm' g hS hv
