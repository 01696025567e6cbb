/-! begin, feed, step, value -/
theorem pX_rowWith' {d hx : HI} {n : Nat} {hl : HL} {Φ : Int32 → HI → HL → Prop} (hn : n ≤ 20) (hI : WI d n) (hR : RXL d hx n) (x : Int32) (h : Φ (lof (d 4) x n) hx hl) : wpB_rowWith x hx hl Φ := by
  unfold wpB_rowWith wbB_rowWith_0
  refine loop_0 (fun fu i (_ : Unit) => wbB_rowWith_2 fu x (nI i) hx hl Φ) (fun i _ => ∀ a, a < i → d 4 a ≠ x) n () (fun a ha => absurd ha (by omega)) (fun k _ hk => ?_) (fun k i _ hi hk ih => ?_)
  · unfold wbB_rowWith_2
    refine br_t (by rw [hR.1]; exact nI_le (Nat.le_refl _) (by omega)) ?_
    rcases lof_cases (d 4) x n with ⟨e, _⟩ | ⟨a, ha, e, _⟩
    · rw [e] at h; exact h
    · exact absurd e (hk a ha)
  · unfold wbB_rowWith_2
    refine br_f (by rw [hR.1]; exact nI_ge hi (by omega)) ⟨vp_in_nI (by omega) (by omega), ?_⟩
    rw [nI_clamp (by omega), (hR.2.2.2.2 i hi).2.1, nI_n1, nI_1]
    refine br_c (fun q => ?_) (fun q => ?_)
    · rcases lof_cases (d 4) x n with ⟨_, e⟩ | ⟨a, ha, e, e2⟩
      · exact absurd q (e i hi)
      · have : a = i := hI.2 a i ha hi (e.trans q.symm)
        subst this
        rw [e2] at h; exact h
    · refine ih () (fun a ha => ?_)
      by_cases z : a = i
      · subst z; exact q
      · exact hk a (by omega)
theorem pX_nodeWith' {d hx : HI} {n : Nat} {hl : HL} {Φ : Int32 → HI → HL → Prop} (hn : n ≤ 20) (hI : WI d n) (hR : RXL d hx n) (x : Int32) (h : Φ (NY d n x) hx hl) : wpB_nodeWith x hx hl Φ := by
  unfold wpB_nodeWith wbB_nodeWith_0 wbB_nodeWith_30
  refine pX_rowWith' hn hI hR x ?_
  unfold NY at h
  rcases lof_cases (d 4) x n with ⟨e, _⟩ | ⟨a, ha, e, e2⟩
  · rw [e] at h ⊢
    rw [if_neg (fun y => absurd y.1 (by decide))] at h
    exact br_t rfl h
  · rw [e2] at h ⊢
    rw [nI_clamp (by omega)] at h ⊢
    obtain ⟨⟨κ, hκ, eκ⟩, hL⟩ := hR.2.2.2.2 a ha
    have hp : (0 : Int32) ≤ nI a := nI_pos' (by omega)
    refine br_f (fun y => absurd (y ▸ hp) (by decide)) ⟨vp_in_nI (by omega) (by omega), ?_⟩
    rw [hL.2.1, eκ]
    refine ⟨vp_in_nI (by omega) (by omega), pX_isNode κ hκ ?_⟩
    have nk := nod_κ hκ
    rw [eκ] at h
    refine br_c (fun q => ?_) (fun q => ?_)
    · rw [bI_0, decide_eq_false_iff_not, ← nk] at q
      rw [if_neg (fun y => q ⟨y.2.1, y.2.2⟩)] at h; exact h
    · rw [bI_ne, decide_eq_true_eq, ← nk] at q
      rw [if_pos ⟨hp, q.1, q.2⟩] at h; exact h
theorem NY_cs (d : HI) (n : Nat) (x : Int32) : NY d n x = -1 ∨ ∃ k, k < n ∧ NY d n x = nI k ∧ (n ≤ 20 → nod (d 5 k)) := by
  unfold NY
  rcases lof_cases (d 4) x n with ⟨e, _⟩ | ⟨a, ha, e, e2⟩
  · rw [e, if_neg (fun y => absurd y.1 (by decide))]; exact Or.inl rfl
  · rw [e2]
    by_cases q : 0 ≤ nI a ∧ ¬ d 5 (nI a).toNatClampNeg = 0 ∧ ¬ 27 ≤ d 5 (nI a).toNatClampNeg
    · rw [if_pos q]
      refine Or.inr ⟨a, ha, rfl, fun hn => ?_⟩
      rw [nI_clamp (by omega)] at q; exact q.2
    · rw [if_neg q]; exact Or.inl rfl
theorem asg_u {d : HI} {n : Nat} (hF : WF d n) {v v' : Nat → Nat} {σ ι : Nat} (h : Asg d n v σ ι) (h' : Asg d n v' σ ι) : ∀ k, k < n → nod (d 5 k) → v k = v' k := by
  refine sett_u hF h.1 h'.1 h.2.1 h'.2.1 (fun k hk hf => ?_)
  obtain ⟨κ, hκ, e5, _⟩ := hF.2.2.2 k hk
  rcases fre_c hκ e5 hf with e | e
  · rw [(h.2.2 k hk).2 e, (h'.2.2 k hk).2 e]
  · rw [(h.2.2 k hk).1 e, (h'.2.2 k hk).1 e]
theorem pX_valueOf {d hx : HI} {hl : HL} {Φ : Int32 → HI → HL → Prop} {n : Nat} (hF : WF d n) (hX : RXL d hx n) (hW : WIR d n hl) {σ ι : Nat} (hσ : σ < 64) (hι : ι < 4) (x : Int32) (h0 : NY d n x = -1 → Φ (-1) hx hl) (h1 : ∀ k, k < n → NY d n x = nI k → nod (d 5 k) → ∀ v, Asg d n v σ ι → Φ (nI (v k)) hx hl) : wpB_valueOf x (nI σ) (nI ι) hx hl Φ := by
  have hn := hF.1.1
  unfold wpB_valueOf wbB_valueOf_0
  refine pX_nodeWith' hn hF.2.2.1 hX x ?_
  rcases NY_cs d n x with e | ⟨k, hk, e, hno⟩
  · rw [e]; exact br_t rfl (h0 e)
  · rw [e]
    have hp : (0 : Int32) ≤ nI k := nI_pos' (by omega)
    refine br_f (fun y => absurd (y ▸ hp) (by decide)) ⟨vp_in_nI (by omega) (by omega), ?_⟩
    rw [nI_clamp (by omega)]
    obtain ⟨v, hA⟩ := asg_e hF σ ι
    exact pX_valueAt hF hX hW hσ hι hA k hk (hno hn) (h1 k hk e (hno hn) v hA)
theorem st_64 {d hx : HI} {n : Nat} {σ : Nat} (hP : PLC d n hx) (h : σ < 2 ^ tot d (nI 2) n) : σ < 64 := by
  have := p2_64 hP.2.2.2
  omega
theorem in_4 {d hx : HI} {n : Nat} {ι : Nat} (hP : PLC d n hx) (h : ι < 2 ^ tot d (nI 1) n) : ι < 4 := by
  have : (2 : Nat) ^ tot d (nI 1) n ≤ 2 ^ 2 := Nat.pow_le_pow_right (by omega) hP.2.2.1
  omega
/-- M's values alone have changed -/
theorem Rel_G {hm hm' hx : HI} {hl : HL} (g : G17 hm hm') (hR : Rel hm hx hl) : Rel hm' hx hl := by
  obtain ⟨n, m, run, hA, hT, hRn, hK⟩ := hR
  have hF := hA.1
  have hE : EQL hm hm' n := fun c h1 h2 k hk => by rw [g c (by omega) (by omega)]
  have g0 : hm' 0 = hm 0 := g 0 (by decide) (by decide)
  obtain ⟨m1, x3, m40, c1, c2, c3⟩ := hT
  refine ⟨n, m, run, RelA_c hE (by rw [g0]) (fun _ _ => rfl) rfl hA, ⟨by rw [g0]; exact m1, x3, m40, ?_, ?_, ?_⟩, RelR_c hE hF (by rw [g0]) (g 19 (by decide) (by decide)) rfl hRn, KP_c hE hF (by rw [g0]) (by rw [g0]) rfl rfl rfl hK⟩
  · rw [g 1 (by decide) (by decide)]; exact c1
  · rw [g 2 (by decide) (by decide)]; exact c2
  · rw [g 3 (by decide) (by decide)]; exact c3
theorem RelA_R {d hx : HI} {hl : HL} {n : Nat} (h : RelA d n hx hl) : RL d d n := ⟨h.2.2.1, fun _ _ _ _ _ => rfl⟩
theorem value_ok {hm hx : HI} {hl hlm : HL} (x : Int32) (hR : Rel hm hx hl) : wpC_value x hx hl (fun r hx' hl' => wpM_value x hm hlm (fun r' hm' _ => r = r' ∧ Rel hm' hx' hl')) := by
  have hR' := hR
  obtain ⟨n, m, run, hA, hT, hRn, hK⟩ := hR
  have hF := hA.1
  have hn := hF.1.1
  have hRL := RelA_R hA
  obtain ⟨r1, r2, r3⟩ := hRn
  unfold wpC_value wbC_value_0
  refine br_c (fun q => ?_) (fun q => ?_)
  · rw [r2, bI_0] at q
    refine pM_value hF hRL run (fun _ => 0) r1 (fun z => absurd (z.symm.trans q) (by decide)) x (fun _ => ⟨rfl, hR'⟩) (fun z => absurd (z.symm.trans q) (by decide))
  · rw [r2, bI_ne] at q
    obtain ⟨σ, ι, s1, s2, s3, s4, s5⟩ := r3 q
    obtain ⟨hW, hL, hB, hI, hP⟩ := hA.2.2.2.2
    rw [s1, s2]
    refine pX_valueOf hF hA.2.2.2.1 hW (st_64 hP s3) (in_4 hP s4) x (fun e => ?_) (fun k hk e hno v hv => ?_)
    · exact pM_value hF hRL run _ r1 (fun _ => s5) x (fun _ => ⟨rfl, hR'⟩) (fun _ k hk e' => by
        rw [e] at e'
        have hp : (0 : Int32) ≤ nI k := nI_pos' (by omega)
        rw [← e'] at hp; exact absurd hp (by decide))
    · refine pM_value hF hRL run _ r1 (fun _ => s5) x (fun z => ?_) (fun _ k' hk' e' hno' v' hm' g hS hv' => ⟨?_, Rel_G g hR'⟩)
      · rcases z with z | z
        · exact absurd (z.symm.trans q) (by decide)
        · rw [e] at z
          have hp : (0 : Int32) ≤ nI k := nI_pos' (by omega)
          rw [z] at hp; exact absurd hp (by decide)
      · have : k' = k := (nI_eq (by omega) (by omega)).mp (e'.symm.trans e)
        subst this
        have hA' : Asg hm n v' σ ι := asg_of hF hS.2.1 hS.2.2 hv' (fun k hk e => by rw [if_pos e]) (fun k hk e => by rw [if_neg (by rw [e]; decide)])
        rw [asg_u hF hv hA' k' hk hno]
/-- M's hand alone has changed, and the class's state and input -/
theorem Rel_H {hm hm' hx hx' : HI} {hl : HL} {n m : Nat} {run : Bool} (g : ∀ c, c ≠ 17 → c ≠ 18 → c ≠ 19 → c ≠ 0 → hm' c = hm c) (g0 : ∀ s, s ≠ 23 → hm' 0 s = hm 0 s) (x : ∀ c, c ≠ 0 → hx' c = hx c) (hA : RelA hm n hx hl) (hT : RelTx hm hx m) (hK : KP hm n hm hx) (hRn : RelR hm n hm' hx' run) : Rel hm' hx' hl := by
  have hF := hA.1
  have hE : EQL hm hm' n := fun c h1 h2 k hk => by rw [g c (by omega) (by omega) (by omega) (by omega)]
  obtain ⟨m1, x3, m40, c1, c2, c3⟩ := hT
  refine ⟨n, m, run, RelA_c hE (g0 6 (by decide)) (fun k _ => x _ (by omega)) (x 5 (by decide)) hA, ⟨by rw [g0 1 (by decide)]; exact m1, by rw [x 1 (by decide)]; exact x3, m40, ?_, ?_, ?_⟩, RelR_c hE hF rfl rfl rfl hRn, KP_c hE hF (g0 25 (by decide)) (g0 26 (by decide)) (x 20 (by decide)) (x 22 (by decide)) (x 23 (by decide)) hK⟩
  · rw [g 1 (by decide) (by decide) (by decide) (by decide), x 2 (by decide)]; exact c1
  · rw [g 2 (by decide) (by decide) (by decide) (by decide), x 3 (by decide)]; exact c2
  · rw [g 3 (by decide) (by decide) (by decide) (by decide), x 4 (by decide)]; exact c3
theorem tof_in (d : HI) : ∀ k, tof d (inT d) k = tot d (nI 1) k
  | 0 => rfl
  | k + 1 => by
    simp only [tof, tof_in d k]
    by_cases e : d 5 k = 1
    · have e' : d 5 k = nI 1 := e
      rw [tot_s e', if_pos (by unfold inT; exact decide_eq_true e)]
    · have e' : ¬ d 5 k = nI 1 := e
      rw [tot_e e', if_neg (by unfold inT; rw [decide_eq_true_eq]; exact e), Nat.add_zero]
theorem mod_f {Y p b q : Nat} (h : p + b ≤ q) : Y % 2 ^ q / 2 ^ p % 2 ^ b = Y / 2 ^ p % 2 ^ b := by
  have e := fa (a := Y % 2 ^ q) (c := Y / 2 ^ q) h
  have : Y % 2 ^ q + Y / 2 ^ q * 2 ^ q = Y := by rw [Nat.mul_comm]; exact Nat.mod_add_div Y (2 ^ q)
  rw [this] at e; exact e.symm
theorem fld_0 (d : HI) (k : Nat) : fld d 0 k = 0 := by unfold fld; rw [Nat.zero_div, Nat.zero_mod]
theorem feed_ok {hm hx : HI} {hl hlm : HL} (y : Int32) (hR : Rel hm hx hl) : wpC_feed y hx hl (fun r hx' hl' => wpM_feed y hm hlm (fun r' hm' _ => r = r' ∧ Rel hm' hx' hl')) := by
  have hR' := hR
  obtain ⟨n, m, run, hA, hT, hRn, hK⟩ := hR
  have hF := hA.1
  have hn := hF.1.1
  have hRL := RelA_R hA
  obtain ⟨r1, r2, r3⟩ := hRn
  unfold wpC_feed wbC_feed_0
  refine br_c (fun q => ⟨i01_0, ?_⟩) (fun q => ⟨i01_1, ?_⟩)
  · rw [r2, bI_0] at q
    unfold wpM_feed wbM_feed_0
    exact br_t (by rw [r1, bI_0]; exact q) ⟨i01_0, rfl, hR'⟩
  · rw [r2, bI_ne] at q
    obtain ⟨σ, ι, s1, s2, s3, s4, s5⟩ := r3 q
    have hP := hA.2.2.2.2.2.2.2.2
    have hI2 := hP.2.2.1
    rw [hA.2.2.2.1.2.1, pk_and y (tot hm (nI 1) n) (mk_k _ (List.mem_range.mpr (by omega)))]
    refine pM_feed hF hRL _ s5 (by rw [r1, q]; rfl) (by rw [tof_in]; omega) y (fun hm' g hH => ⟨rfl, ?_⟩)
    refine Rel_H (run := run) (fun c h1 h2 h3 _ => g c h1 h2 h3) (fun s _ => by rw [g 0 (by decide) (by decide) (by decide)]) (fun c hc => u2_cf _ _ _ hc) hA hT hK ⟨by rw [g 0 (by decide) (by decide) (by decide)]; exact r1, by rw [u2_j _ _ _ _ (by decide)]; exact r2, fun _ => ⟨σ, y.toBitVec.toNat % 2 ^ tot hm (nI 1) n, by rw [u2_j _ _ _ _ (by decide)]; exact s1, u2_s _ _ _ _, s3, Nat.mod_lt _ (Nat.two_pow_pos _), fun k hk hf => ?_⟩⟩
    have := hH k hk hf
    obtain ⟨κ, hκ, e5, _⟩ := hF.2.2.2 k hk
    dsimp only
    unfold dl inT at this
    rcases fre_c hκ e5 hf with e | e
    · rw [if_neg (by rw [e]; decide)]
      rw [if_pos (decide_eq_true e)] at this
      have hp := pl_b (d := hm) hk
      rw [e] at hp
      have hp' : pl hm k + bts (nk hm k) ≤ tot hm (nI 1) n := hp
      have e' : tof hm (fun k => decide (hm 5 k = 1)) k = pl hm k := by rw [pl_w e]; exact tof_in hm k
      unfold fld
      rw [mod_f hp', ← e']
      exact this
    · rw [if_pos e]
      rw [if_neg (by rw [e]; decide)] at this
      dsimp only at this
      rw [if_pos e] at this
      exact this
theorem step_ok {hm hx : HI} {hl hlm : HL} (hR : Rel hm hx hl) : wpC_step hx hl (fun r hx' hl' => wpM_step hm hlm (fun r' hm' _ => r = r' ∧ Rel hm' hx' hl')) := by
  have hR' := hR
  obtain ⟨n, m, run, hA, hT, hRn, hK⟩ := hR
  have hF := hA.1
  have hn := hF.1.1
  have hRL := RelA_R hA
  obtain ⟨r1, r2, r3⟩ := hRn
  unfold wpC_step wbC_step_0
  refine br_c (fun q => ⟨i01_0, ?_⟩) (fun q => ?_)
  · rw [r2, bI_0] at q
    unfold wpM_step wbM_step_0
    exact br_t (by rw [r1, bI_0]; exact q) ⟨i01_0, rfl, hR'⟩
  · rw [r2, bI_ne] at q
    obtain ⟨σ, ι, s1, s2, s3, s4, s5⟩ := r3 q
    obtain ⟨hW, hL, hB, hI, hP⟩ := hA.2.2.2.2
    have hI2 := hP.2.2.1
    rw [s1, s2]
    refine pX_after (tot hm (nI 2) n) σ ι hP.2.2.2 hA.2.2.2.1.2.2.1 (st_64 hP s3) (in_4 hP s4) ⟨i01_1, ?_⟩
    refine pM_step hF hRL _ s5 (by rw [r1, q]; rfl) (by rw [tof_in]; omega) (fun v hm' hV hS hv g hH => ⟨rfl, ?_⟩)
    have hA' : Asg hm n v σ ι := asg_of hF hV hS hv (fun k hk e => by rw [if_pos e]) (fun k hk e => by rw [if_neg (by rw [e]; decide)])
    refine Rel_H (run := run) (fun c h1 h2 h3 _ => g c h1 h2 h3) (fun s _ => by rw [g 0 (by decide) (by decide) (by decide)]) (fun c hc => by rw [u2_cf _ _ _ hc, u2_cf _ _ _ hc]) hA hT hK ⟨by rw [g 0 (by decide) (by decide) (by decide)]; exact r1, by rw [u2_j _ _ _ _ (by decide), u2_j _ _ _ _ (by decide)]; exact r2, fun _ => ⟨AF hl (tot hm (nI 2) n) σ ι, 0, by rw [u2_j _ _ _ _ (by decide), u2_s], by rw [u2_s]; rfl, AF_lt _ _ _ _, Nat.two_pow_pos _, fun k hk hf => ?_⟩⟩
    have := hH k hk hf
    obtain ⟨κ, hκ, e5, _⟩ := hF.2.2.2 k hk
    dsimp only at this ⊢
    rcases fre_c hκ e5 hf with e | e
    · rw [if_neg (by rw [e]; decide), fld_0]
      rw [if_pos e] at this
      exact this
    · rw [if_pos e, AF_f hL hF (st_64 hP s3) (in_4 hP s4) hA' hk e]
      rw [if_neg (by rw [e]; decide)] at this
      exact this
/-! begin -/
theorem or_g : ∀ p, p ∈ List.range 7 → ∀ a, a ∈ List.range (2 ^ p) → ∀ b, b ∈ List.range (2 ^ (6 - p)) → nI a ||| (nI b <<< (nI p &&& 31)) = nI (a + b * 2 ^ p) := by decide +kernel
theorem or_f {p a b w : Nat} (ha : a < 2 ^ p) (hb : b < 2 ^ w) (h : p + w ≤ 6) : nI a ||| (nI b <<< (nI p &&& 31)) = nI (a + b * 2 ^ p) :=
  or_g p (List.mem_range.mpr (by omega)) a (List.mem_range.mpr ha) b (List.mem_range.mpr (Nat.lt_of_lt_of_le hb (Nat.pow_le_pow_right (by omega) (by omega))))
theorem su_k : ∀ b, b ∈ List.range 32 → (((nI b).toUInt32 &&& Int32.toUInt32 31).toBitVec % 32).toNat = b := by decide +kernel
theorem LB_u {r : Int32} {y m : Nat} (h : LB r y m) (hm : m ≤ 32) (b : Nat) (hb : b < 32) (hbm : b ≤ m) : LB ((r.toUInt32 >>> ((nI b).toUInt32 &&& Int32.toUInt32 31)).toInt32) (y / 2 ^ b) (m - b) := by
  intro i hi
  have e := pk_ushr r (nI b) b (su_k b (List.mem_range.mpr hb))
  rw [← BitVec.testBit_toNat, e, Nat.testBit_div_two_pow, Nat.testBit_div_two_pow, BitVec.testBit_toNat, h _ (by omega)]
theorem b_6 {d hx : HI} {n k : Nat} (hP : PLC d n hx) (hk : k < n) (e : d 5 k = 2) : tot d (nI 2) k + bts (nk d k) ≤ 6 := by
  have hp := pl_b (d := d) hk
  rw [pl_w e, e] at hp
  have hp' : tot d (nI 2) k + bts (nk d k) ≤ tot d (nI 2) n := hp
  have := hP.2.2.2
  omega
theorem dl_lt {d : HI} {n : Nat} (hF : WF d n) {v : Nat → Nat} (hV : VR d n v) (T : Nat → Bool) (X : Nat) {k : Nat} (hk : k < n) (hno : nod (d 5 k)) : dl d T X (ivl d v n) k < 2 ^ bts (nk d k) := by
  unfold dl
  split
  · exact Nat.mod_lt _ (Nat.two_pow_pos _)
  · exact ivl_lt hF hV (Nat.le_refl _) hk hno
theorem tof_tot {d : HI} {n : Nat} : ∀ k, tof d (chs d n) k ≤ tot d (nI 2) k
  | 0 => Nat.le_refl _
  | k + 1 => by
    have ih := tof_tot (d := d) (n := n) k
    by_cases e : d 5 k = 2
    · have e' : d 5 k = nI 2 := e
      rw [tot_s e']
      simp only [tof]
      split <;> omega
    · have e' : ¬ d 5 k = nI 2 := e
      rw [tot_e e']
      have : chs d n k = false := by unfold chs; rw [decide_eq_false e]; rfl
      simp only [tof, this, Bool.false_eq_true, if_false]
      exact ih
theorem n_7 {d : HI} {n k : Nat} (hW : WL d n) (hk : k < n) (hno : nod (d 5 k)) : nk d k ≤ 7 := by
  obtain ⟨s, hs, es, e5, e, _⟩ := nkf hW hk hno
  rcases sc_cases hW hs e5 with ⟨a, b, c, _⟩ | ⟨a, b, c, _⟩ <;> omega
theorem pX_startWith {d hx : HI} {hl : HL} {Φ : Int32 → HI → HL → Prop} {n : Nat} (hF : WF d n) (hX : RXL d hx n) (hP : PLC d n hx) (hI : INI d n hx) (v0 : Nat → Nat) (v1 : VR d n v0) (v2 : Sett d n v0) (v3 : ∀ k, k < n → fre d k → v0 k = 0) (x : Int32)
    (h : Φ (nI (enc d (nI 2) (dl d (chs d n) x.toBitVec.toNat (ivl d v0 n)) n)) hx hl) : wpB_startWith x hx hl Φ := by
  have hn := hF.1.1
  unfold wpB_startWith wbB_startWith_0
  generalize hX0 : x.toBitVec.toNat = X at h
  refine loop_0 (fun fu i (s : Int32 × Int32) => wbB_startWith_7 fu s.1 s.2 (nI i) hx hl Φ) (fun i s => s.1 = nI (enc d (nI 2) (dl d (chs d n) X (ivl d v0 n)) i) ∧ LB s.2 (X / 2 ^ tof d (chs d n) i) (32 - tof d (chs d n) i)) n (0, x) ⟨rfl, by simp only [tof, Nat.pow_zero, Nat.div_one]; rw [← hX0]; exact LB_0 x _⟩ (fun m s hs => ?_) (fun m i s hi hs ih => ?_)
  · unfold wbB_startWith_7
    exact br_t (by rw [hX.1]; exact nI_le (Nat.le_refl _) (by omega)) (by rw [hs.1]; exact h)
  · obtain ⟨s1, s2⟩ := hs
    obtain ⟨⟨κ, hκ, eκ⟩, l0, l1, l2, l3, l4⟩ := hX.2.2.2.2 i hi
    have hvi : vp_in (nI i) 20 := vp_in_nI (by omega) (by omega)
    have hvk : vp_in (d 5 i) 31 := by rw [eκ]; exact vp31 κ (by omega)
    have t6 := tof_tot (d := d) (n := n) i
    unfold wbB_startWith_7 wbB_startWith_62 wbB_startWith_105
    rw [nI_clamp (by omega), l1, nI_n1, nI_1, s1]
    refine br_f (by rw [hX.1]; exact nI_ge hi (by omega)) ⟨hvi, hvk, vp31 2 (by omega), br_c (fun e => ?_) (fun e => ⟨hvk, vp31 2 (by omega), br_f e (ih (_, _) ⟨?_, ?_⟩)⟩)⟩
    · have e' : d 5 i = nI 2 := e
      have hno := (fre_2 e).1
      have hb6 := b_6 hP hi e
      have hlt := enc_lt (d := d) (what := nI 2) (m := i) (f := dl d (chs d n) X (ivl d v0 n)) (fun k hk ek => dl_lt hF v1 _ _ (by omega) (fre_2 ek).1)
      have hdl := dl_lt hF v1 (chs d n) X hi hno
      have p4 : hx (24 + i) 4 = nI (tot d (nI 2) i) := by rw [hP.1 i hi (Or.inr e), pl_w e']
      refine br_c (fun q => ⟨hvk, vp31 2 (by omega), br_t e ?_⟩) (fun q => ?_)
      · have hq := (l4 e).1.mp q
        have hc : chs d n i = true := by unfold chs; rw [decide_eq_true e, hq]; rfl
        have ht : tof d (chs d n) (i + 1) = tof d (chs d n) i + bts (nk d i) := by simp only [tof, hc, if_true]
        rw [(l3 hno).1]
        have en : sc d (d 6 i).toNatClampNeg = nk d i := rfl
        rw [en, pX_bitsOf _ (n_7 hF.1 hi hno), p4, LB_m s2 _ (by omega) (by omega)]
        have ed : dl d (chs d n) X (ivl d v0 n) i = X / 2 ^ tof d (chs d n) i % 2 ^ bts (nk d i) := by unfold dl; rw [if_pos hc]
        rw [← ed, or_f hlt hdl hb6, ← enc_s e']
        refine ih (_, _) ⟨rfl, ?_⟩
        have := LB_u s2 (by omega) (bts (nk d i)) (by omega) (by omega)
        rw [ht]
        rw [Nat.div_div_eq_div_mul, ← Nat.pow_add] at this
        have e2 : 32 - tof d (chs d n) i - bts (nk d i) = 32 - (tof d (chs d n) i + bts (nk d i)) := by omega
        rw [e2] at this; exact this
      · have hq : hsq d (nI 27) (nI i) n = true := by
          cases z : hsq d (nI 27) (nI i) n
          · exact absurd ((l4 e).1.mpr z) q
          · rfl
        have hc : chs d n i = false := by unfold chs; rw [decide_eq_true e, hq]; rfl
        have ht : tof d (chs d n) (i + 1) = tof d (chs d n) i := by simp only [tof, hc, Bool.false_eq_true, if_false, Nat.add_zero]
        have ed : dl d (chs d n) X (ivl d v0 n) i = ivl d v0 n i := by unfold dl; rw [hc, if_neg (by decide)]
        rw [hI i hi e hq v0 v1 v2 v3, p4, ← ed, or_f hlt hdl hb6, ← enc_s e']
        exact ih (_, _) ⟨rfl, by rw [ht]; exact s2⟩
    · have e' : ¬ d 5 i = nI 2 := e
      rw [enc_e e']; rfl
    · have hc : chs d n i = false := by unfold chs; rw [decide_eq_false e]; rfl
      have ht : tof d (chs d n) (i + 1) = tof d (chs d n) i := by simp only [tof, hc, Bool.false_eq_true, if_false, Nat.add_zero]
      rw [ht]; exact s2
theorem ivl_2 {d hx : HI} {n : Nat} (hF : WF d n) (hI : INI d n hx) {v v' : Nat → Nat} (v1 : VR d n v) (v2 : Sett d n v) (v3 : ∀ k, k < n → fre d k → v k = 0) (w1 : VR d n v') (w2 : Sett d n v') (w3 : ∀ k, k < n → fre d k → v' k = 0) {k : Nat} (hk : k < n) (e : d 5 k = 2) (hc : chs d n k = false) : ivl d v n k = ivl d v' n k := by
  have hq : hsq d (nI 27) (nI k) n = true := by
    unfold chs at hc; rw [decide_eq_true e, Bool.true_and] at hc
    simpa using hc
  have a := hI k hk e hq v v1 v2 v3
  rw [hI k hk e hq v' w1 w2 w3] at a
  have l1 := ivl_lt hF v1 (Nat.le_refl _) hk (fre_2 e).1
  have l2 := ivl_lt hF w1 (Nat.le_refl _) hk (fre_2 e).1
  have h64 := p2_64 (bts_7 (n_7 hF.1 hk (fre_2 e).1))
  exact ((nI_eq (by omega) (by omega)).mp a).symm
theorem begin_ok {hm hx : HI} {hl hlm : HL} (x : Int32) (hR : Rel hm hx hl) : wpC_begin x hx hl (fun hx' hl' => wpM_begin x hm hlm (fun hm' _ => Rel hm' hx' hl')) := by
  obtain ⟨n, m, run, hA, hT, hRn, hK⟩ := hR
  have hF := hA.1
  have hn := hF.1.1
  have hRL := RelA_R hA
  obtain ⟨hW, hL, hB, hI, hP⟩ := hA.2.2.2.2
  obtain ⟨v0, v1, v2, v3⟩ := asg_ex hF (fun _ => 0) (fun _ _ _ => Nat.two_pow_pos _)
  unfold wpC_begin wbC_begin_0
  have xo : ∀ c, c ≠ 0 → u2 hx 0 4 1 c = hx c := fun c hc => u2_cf _ _ _ hc
  have hX' : RXL hm (u2 hx 0 4 1) n := RXL_x (fun k _ => xo _ (by omega)) (xo 5 (by decide)) hn hA.2.2.2.1
  have hTB := TBL_x (hl := hl) (hl' := hl) (fun k _ => xo _ (by omega)) (fun _ _ => rfl) rfl rfl rfl hn hA.2.2.2.2
  refine ⟨i01_1, pX_startWith hF hX' hTB.2.2.2.2 hTB.2.2.2.1 v0 v1 v2 v3 x ?_⟩
  have hc6 : tof hm (chs hm n) n ≤ 6 := by
    have := tof_tot (d := hm) (n := n) n
    have := hP.2.2.2
    omega
  refine pM_begin hF hRL hc6 x (fun v hm' w1 w2 w3 g hH => ?_)
  have hlt := enc_lt (d := hm) (what := nI 2) (m := n) (f := dl hm (chs hm n) x.toBitVec.toNat (ivl hm v0 n)) (fun k hk ek => dl_lt hF v1 _ _ hk (fre_2 ek).1)
  have g0 : hm' 0 = u2 hm 0 23 1 0 := g 0 (by decide) (by decide) (by decide)
  refine Rel_H (run := true) (fun c h1 h2 h3 h0 => by rw [g c h1 h2 h3, u2_cf _ _ _ h0]) (fun s hs => by rw [g0, u2_j _ _ _ _ hs]) (fun c hc => by rw [u2_cf _ _ _ hc, u2_cf _ _ _ hc, xo c hc]) hA hT hK ⟨by rw [g0, u2_s]; rfl, by simp (decide := true) only [u2_j, u2_s, bI_t], fun _ => ⟨_, 0, by rw [u2_j _ _ _ _ (by decide), u2_s], by rw [u2_s]; rfl, hlt, Nat.two_pow_pos _, fun k hk hf => ?_⟩⟩
  have := hH k hk hf
  obtain ⟨κ, hκ, e5, _⟩ := hF.2.2.2 k hk
  dsimp only
  rcases fre_c hκ e5 hf with e | e
  · rw [if_neg (by rw [e]; decide), fld_0]
    have hc : chs hm n k = false := by unfold chs; rw [e]; rfl
    unfold dl at this
    rw [hc, if_neg (by decide), ivl_o hF (Nat.le_refl _) (by rw [e]; decide)] at this
    exact this
  · have ef : fld hm (enc hm (nI 2) (dl hm (chs hm n) x.toBitVec.toNat (ivl hm v0 n)) n) k = dl hm (chs hm n) x.toBitVec.toNat (ivl hm v0 n) k := fld_enc (what := nI 2) (fun k hk ek => dl_lt hF v1 _ _ hk (fre_2 ek).1) hk e
    rw [if_pos e, ef]
    have ed : dl hm (chs hm n) x.toBitVec.toNat (ivl hm v0 n) k = dl hm (chs hm n) x.toBitVec.toNat (ivl hm v n) k := by
      unfold dl
      cases hc : chs hm n k
      · rw [if_neg (by decide), if_neg (by decide)]
        exact ivl_2 hF hI v1 v2 v3 w1 w2 w3 hk e hc
      · rfl
    rw [ed]; exact this
