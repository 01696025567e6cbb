/-! M: numbers of runs -/
def TA (d : HI) (n : Nat) (any : Bool) (k : Nat) : Bool := if any = true then decide (d 5 k = 2) else chs d n k
theorem chs_2 {d : HI} {n k : Nat} (h : chs d n k = true) : d 5 k = 2 := by unfold chs at h; simp at h; exact h.1
theorem TA_2 {d : HI} {n : Nat} {any : Bool} {k : Nat} (h : TA d n any k = true) : d 5 k = 2 := by
  unfold TA at h
  cases any
  · exact chs_2 h
  · exact of_decide_eq_true h
theorem TA_f {d : HI} {n : Nat} (k : Nat) : TA d n false k = chs d n k := rfl
theorem TA_t {d : HI} {n : Nat} (k : Nat) : TA d n true k = decide (d 5 k = 2) := rfl
theorem tof_s {d : HI} {T : Nat → Bool} {k : Nat} (h : T k = true) : tof d T (k + 1) = tof d T k + bts (nk d k) := by simp only [tof, h, if_true]
theorem tof_e {d : HI} {T : Nat → Bool} {k : Nat} (h : T k = false) : tof d T (k + 1) = tof d T k := by simp only [tof, h, Bool.false_eq_true, if_false, Nat.add_zero]
theorem tofT_tot {d : HI} {n : Nat} (any : Bool) : ∀ k, tof d (TA d n any) k ≤ tot d (nI 2) k
  | 0 => Nat.le_refl _
  | k + 1 => by
    have ih := tofT_tot (d := d) (n := n) any k
    cases e : TA d n any k
    · rw [tof_e e]
      have := tot_m (d := d) (what := nI 2) (show k ≤ k + 1 by omega)
      omega
    · have e' : d 5 k = nI 2 := TA_2 e
      rw [tof_s e, tot_s e']; omega
theorem tofT_t {d : HI} {n : Nat} : ∀ k, tof d (TA d n true) k = tot d (nI 2) k
  | 0 => rfl
  | k + 1 => by
    by_cases e : d 5 k = 2
    · have e' : d 5 k = nI 2 := e
      rw [tof_s (by rw [TA_t]; exact decide_eq_true e), tot_s e', tofT_t k]
    · have e' : ¬ d 5 k = nI 2 := e
      rw [tof_e (by rw [TA_t]; exact decide_eq_false e), tot_e e', tofT_t k]
theorem pM_width {d hm : HI} {n : Nat} {hl : HL} {Φ : Int32 → HI → HL → Prop} (hW : WL d n) (hR : RL d hm n) (any : Bool) (h : Φ (nI (tof d (TA d n any) n)) hm hl) : wpM_width (bI any) hm hl Φ := by
  have hn := hW.1
  unfold wpM_width wbM_width_0
  refine loop_f (fun fu i s => wbM_width_4 fu (bI any) s (nI i) hm hl Φ) (fun i => nI (tof d (TA d n any) i)) n (fun k => ?_) (fun k i hi ih => ?_)
  · unfold wbM_width_4
    exact br_t (by rw [hR.1]; exact nI_le (Nat.le_refl _) (by omega)) h
  · have hv : vp_in (nI i) 21 := vp_in_nI (by omega) (by omega)
    have r34 : TA d n any i = true → wbM_width_34 (fun v1 v2 v3 hi hl => wbM_width_4 k v1 v2 v3 hi hl Φ) (bI any) (nI (tof d (TA d n any) i)) (nI i) hm hl Φ := fun q => by
      unfold wbM_width_34 wbM_width_50
      rw [nI_clamp (by omega), hR.2 6 (by omega) (by omega) i hi, pM_bitsR hW hR i hi (fre_2 (TA_2 q)).1, nI_n1, nI_1, nI_add, ← tof_s q]
      exact ⟨hv, ih⟩
    have r26 : TA d n any i = chs d n i → wbM_width_26 (fun v1 v2 v3 hi hl => wbM_width_4 k v1 v2 v3 hi hl Φ) (bI any) (nI (tof d (TA d n any) i)) (nI i) hm hl Φ := fun q => by
      unfold wbM_width_26
      refine pM_chosen hW hR i hi ?_
      refine br_c (fun z => ?_) (fun z => ?_)
      · rw [bI_0] at z
        unfold wbM_width_50
        rw [nI_n1, nI_1 i, ← tof_e (q.trans z)]; exact ih
      · rw [bI_ne] at z
        exact r34 (q.trans z)
    unfold wbM_width_4
    rw [nI_clamp (by omega), hR.2 5 (by omega) (by omega) i hi]
    refine br_f (by rw [hR.1]; exact nI_ge hi (by omega)) (br_c (fun q => ?_) (fun q => ⟨hv, br_c (fun z => ?_) (fun z => ?_)⟩))
    · rw [bI_0] at q; subst q; exact r26 rfl
    · rw [bI_ne] at q; subst q; exact r34 (by rw [TA_t]; exact decide_eq_true z)
    · rw [bI_ne] at q; subst q
      refine r26 ?_
      rw [TA_t, decide_eq_false z]
      unfold chs; rw [decide_eq_false z]; rfl
/-- a number's bits from place q on -/
theorem cut {V q b : Nat} (hV : V < 2 ^ 31) (hq : q < 32) (hb : b < 31) : (nI V >>> (nI q &&& 31)) &&& ((1 : Int32) <<< (nI b &&& 31) - 1) = nI (V / 2 ^ q % 2 ^ b) := by
  have hd : V / 2 ^ q ≤ V := Nat.div_le_self _ _
  rw [pk_shrN hV _ q (sm_k q (List.mem_range.mpr hq)), pk_andN (by omega) b (mk_k b (List.mem_range.mpr hb))]
def sV (d : HI) (n : Nat) (any : Bool) (v0 : Nat → Nat) (V p k : Nat) : Nat := if TA d n any k = true then V / 2 ^ (p - tof d (TA d n any) (k + 1)) % 2 ^ bts (nk d k) else ivl d v0 n k
theorem pM_start {d hm : HI} {n : Nat} {hl : HL} {Φ : Int32 → HI → HL → Prop} (hF : WF d n) (hR : RL d hm n) (any : Bool) (V p : Nat) (hV : V < 2 ^ 31) (hp : tof d (TA d n any) n ≤ p) (hp2 : p ≤ 30)
    (h : ∀ v0 hm', VR d n v0 → Sett d n v0 → (∀ k, k < n → fre d k → v0 k = 0) → G17 hm hm' → (∀ k, k < n → fre d k → hm' 17 k = nI (sV d n any v0 V p k)) → Φ (nI (p - tof d (TA d n any) n)) hm' hl) : wpM_start (nI V) (nI p) (bI any) hm hl Φ := by
  have hW := hF.1
  have hn := hW.1
  unfold wpM_start wbM_start_0
  refine pM_initz hF hR (fun v0 hm1 h1 h2 h3 g1 hx => ?_)
  refine loop_0 (fun fu i (s : Int32 × HI) => wbM_start_10 fu (nI V) (bI any) s.1 (nI i) s.2 hl Φ) (fun i s => s.1 = nI (p - tof d (TA d n any) i) ∧ G17 hm s.2 ∧ ∀ k, k < n → fre d k → s.2 17 k = nI (if k < i then sV d n any v0 V p k else ivl d v0 n k)) n (nI p, hm1) ⟨by simp only [tof, Nat.sub_zero], g1, fun k hk hf => by rw [if_neg (by omega)]; exact hx k hk hf⟩ (fun m s hs => ?_) (fun m i s hi hs ih => ?_)
  · obtain ⟨s1, g, hg⟩ := hs
    unfold wbM_start_10
    refine br_t (by rw [(RL_G hR g).1]; exact nI_le (Nat.le_refl _) (by omega)) ?_
    rw [s1]
    refine h v0 s.2 h1 h2 h3 g (fun k hk hf => ?_)
    have := hg k hk hf
    rw [if_pos hk] at this; exact this
  · obtain ⟨s1, g, hg⟩ := hs
    have hRs := RL_G hR g
    have hv : vp_in (nI i) 21 := vp_in_nI (by omega) (by omega)
    have tm := tof_le (d := d) (T := TA d n any) (show i + 1 ≤ n by omega)
    have rno : TA d n any i = false → wbM_start_86 (fun v1 v3 v4 v5 hi hl => wbM_start_10 m v1 v3 v4 v5 hi hl Φ) (nI V) (bI any) s.1 (nI i) s.2 hl Φ := fun q => by
      unfold wbM_start_86
      rw [nI_n1, nI_1]
      refine ih s ⟨by rw [tof_e q]; exact s1, g, fun k hk hf => ?_⟩
      rw [hg k hk hf]
      by_cases z : k = i
      · subst z
        rw [if_neg (by omega), if_pos (by omega)]
        unfold sV; rw [q, if_neg (by decide)]
      · by_cases z2 : k < i
        · rw [if_pos z2, if_pos (by omega)]
        · rw [if_neg z2, if_neg (by omega)]
    have r43 : TA d n any i = true → wbM_start_43 (fun v1 v3 v4 v5 hi hl => wbM_start_10 m v1 v3 v4 v5 hi hl Φ) (nI V) (bI any) s.1 (nI i) s.2 hl Φ := fun q => by
      have hno := (fre_2 (TA_2 q)).1
      have hb := bts_7 (n_7 hW hi hno)
      have es := tof_s (d := d) q
      unfold wbM_start_43 wbM_start_86
      rw [nI_clamp (by omega), hRs.2 6 (by omega) (by omega) i hi, pM_bitsR hW hRs i hi hno]
      rw [hRs.2 6 (by omega) (by omega) i hi, pM_bitsR hW hRs i hi hno, s1, pk_sub (by omega), nI_n1, nI_1 i]
      have e1 : p - tof d (TA d n any) i - bts (nk d i) = p - tof d (TA d n any) (i + 1) := by omega
      rw [e1, cut hV (by omega) (by omega)]
      refine ⟨hv, hv, hv, ih (nI (p - tof d (TA d n any) (i + 1)), u2 s.2 17 i (nI (V / 2 ^ (p - tof d (TA d n any) (i + 1)) % 2 ^ bts (nk d i)))) ⟨rfl, G_t g (G_u _ _ _), fun k hk hf => ?_⟩⟩
      dsimp only
      by_cases z : k = i
      · subst z
        rw [u2_s, if_pos (by omega)]
        unfold sV; rw [q, if_pos rfl]
      · rw [u2_j _ _ _ _ z, hg k hk hf]
        by_cases z2 : k < i
        · rw [if_pos z2, if_pos (by omega)]
        · rw [if_neg z2, if_neg (by omega)]
    have r34 : TA d n any i = chs d n i → wbM_start_34 (fun v1 v3 v4 v5 hi hl => wbM_start_10 m v1 v3 v4 v5 hi hl Φ) (nI V) (bI any) s.1 (nI i) s.2 hl Φ := fun q => by
      unfold wbM_start_34
      refine pM_chosen hW hRs i hi ?_
      refine br_c (fun z => ?_) (fun z => ?_)
      · rw [bI_0] at z; exact rno (q.trans z)
      · rw [bI_ne] at z; exact r43 (q.trans z)
    unfold wbM_start_10
    rw [nI_clamp (by omega), hRs.2 5 (by omega) (by omega) i hi]
    refine br_f (by rw [hRs.1]; exact nI_ge hi (by omega)) (br_c (fun q => ?_) (fun q => ⟨hv, br_c (fun z => ?_) (fun z => ?_)⟩))
    · rw [bI_0] at q; subst q; exact r34 rfl
    · rw [bI_ne] at q; subst q; exact r43 (by rw [TA_t]; exact decide_eq_true z)
    · rw [bI_ne] at q; subst q
      refine r34 ?_
      rw [TA_t, decide_eq_false z]
      unfold chs; rw [decide_eq_false z]; rfl
/-- the n-th value of the inputs -/
def ia (d : HI) (n m : Nat) : Nat := enc d (nI 1) (fun k => m / 2 ^ (tot d (nI 1) n - tot d (nI 1) (k + 1)) % 2 ^ bts (nk d k)) n
theorem ia_lt (d : HI) (n m : Nat) : ia d n m < 2 ^ tot d (nI 1) n := enc_lt (fun _ _ _ => Nat.mod_lt _ (Nat.two_pow_pos _))
theorem ia_f {d : HI} {n m k : Nat} (hk : k < n) (e : d 5 k = 1) : fld d (ia d n m) k = m / 2 ^ (tot d (nI 1) n - tot d (nI 1) (k + 1)) % 2 ^ bts (nk d k) := fld_enc (what := nI 1) (f := fun k => m / 2 ^ (tot d (nI 1) n - tot d (nI 1) (k + 1)) % 2 ^ bts (nk d k)) (fun _ _ _ => Nat.mod_lt _ (Nat.two_pow_pos _)) hk e
theorem ia_dg {d : HI} {n k : Nat} (hk : k < n) (e : d 5 k = 1) (V r : Nat) : V / 2 ^ ((r + 1) * tot d (nI 1) n - tot d (nI 1) (k + 1)) % 2 ^ bts (nk d k) = fld d (ia d n (dgt (tot d (nI 1) n) V r)) k := by
  have e' : d 5 k = nI 1 := e
  have ts := tot_s e'
  have tm := tot_m (d := d) (what := nI 1) (show k + 1 ≤ n by omega)
  rw [ia_f hk e]
  unfold dgt
  rw [mod_f (by omega), Nat.div_div_eq_div_mul, ← Nat.pow_add]
  have e2 : (r + 1) * tot d (nI 1) n - tot d (nI 1) (k + 1) = r * tot d (nI 1) n + (tot d (nI 1) n - tot d (nI 1) (k + 1)) := by
    rw [Nat.add_mul, Nat.one_mul]; omega
  rw [e2]
theorem pM_put {d hm : HI} {n : Nat} {hl : HL} {Φ : Int32 → HI → HL → Prop} (hF : WF d n) (hR : RL d hm n) (V r σ : Nat) (hV : V < 2 ^ 31) (hp2 : (r + 1) * tot d (nI 1) n ≤ 30) (hσ : ∀ k, k < n → d 5 k = 2 → hm 17 k = nI (fld d σ k))
    (h : ∀ v hm', G17 hm hm' → SV d n hm' v → Asg d n v σ (ia d n (dgt (tot d (nI 1) n) V r)) → Φ (nI (r * tot d (nI 1) n)) hm' hl) : wpM_put (nI V) (nI ((r + 1) * tot d (nI 1) n)) hm hl Φ := by
  have hW := hF.1
  have hn := hW.1
  unfold wpM_put wbM_put_0
  have er : (r + 1) * tot d (nI 1) n = r * tot d (nI 1) n + tot d (nI 1) n := by rw [Nat.add_mul, Nat.one_mul]
  generalize hpd : (r + 1) * tot d (nI 1) n = p at hp2 er ⊢
  refine loop_0 (fun fu i (s : Int32 × HI) => wbM_put_5 fu (nI V) s.1 (nI i) s.2 hl Φ) (fun i s => s.1 = nI (p - tot d (nI 1) i) ∧ G17 hm s.2 ∧ (∀ k, k < n → d 5 k = 2 → s.2 17 k = nI (fld d σ k)) ∧ ∀ k, k < i → d 5 k = 1 → s.2 17 k = nI (fld d (ia d n (dgt (tot d (nI 1) n) V r)) k)) n (nI p, hm) ⟨by simp only [tot, Nat.sub_zero], G_r hm, hσ, fun k hk => absurd hk (by omega)⟩ (fun m s hs => ?_) (fun m i s hi hs ih => ?_)
  · obtain ⟨s1, g, hg2, hg1⟩ := hs
    unfold wbM_put_5
    refine br_t (by rw [(RL_G hR g).1]; exact nI_le (Nat.le_refl _) (by omega)) ?_
    refine pM_settle' hF (RL_G hR g) (fun k => if d 5 k = 2 then fld d σ k else fld d (ia d n (dgt (tot d (nI 1) n) V r)) k) (fun k hk hf => ?_) (fun v hm' g' hS hv => ?_)
    · obtain ⟨κ, hκ, e5, _⟩ := hF.2.2.2 k hk
      dsimp only
      rcases fre_c hκ e5 hf with e | e
      · rw [if_neg (by rw [e]; decide)]; exact ⟨hg1 k hk e, fld_lt _ _ _⟩
      · rw [if_pos e]; exact ⟨hg2 k hk e, fld_lt _ _ _⟩
    · rw [s1]
      have e2 : p - tot d (nI 1) n = r * tot d (nI 1) n := by omega
      rw [e2]
      exact h v hm' (G_t g g') hS (asg_of hF hS.2.1 hS.2.2 hv (fun k hk e => by rw [if_pos e]) (fun k hk e => by rw [if_neg (by rw [e]; decide)]))
  · obtain ⟨s1, g, hg2, hg1⟩ := hs
    have hRs := RL_G hR g
    have hv : vp_in (nI i) 21 := vp_in_nI (by omega) (by omega)
    have tm := tot_m (d := d) (what := nI 1) (show i + 1 ≤ n by omega)
    unfold wbM_put_5 wbM_put_65
    rw [nI_clamp (by omega), hRs.2 5 (by omega) (by omega) i hi, hRs.2 6 (by omega) (by omega) i hi, nI_n1, nI_1 i]
    refine br_f (by rw [hRs.1]; exact nI_ge hi (by omega)) ⟨hv, br_c (fun e => ?_) (fun e => ?_)⟩
    · have e' : d 5 i = nI 1 := e
      have hno := (fre_1 e).1
      have hb := bts_7 (n_7 hW hi hno)
      have ts := tot_s e'
      rw [pM_bitsR hW hRs i hi hno]
      rw [hRs.2 6 (by omega) (by omega) i hi, pM_bitsR hW hRs i hi hno, s1, pk_sub (by omega)]
      have e1 : p - tot d (nI 1) i - bts (nk d i) = p - tot d (nI 1) (i + 1) := by omega
      rw [e1, cut hV (by omega) (by omega)]
      have := ia_dg hi e V r
      rw [hpd] at this
      rw [this]
      refine ⟨hv, hv, hv, ih (nI (p - tot d (nI 1) (i + 1)), u2 s.2 17 i (nI (fld d (ia d n (dgt (tot d (nI 1) n) V r)) i))) ⟨rfl, G_t g (G_u _ _ _), fun k hk ek => ?_, fun k hk ek => ?_⟩⟩ <;> dsimp only
      · have z : k ≠ i := fun z => by subst z; rw [e] at ek; exact absurd ek (by decide)
        rw [u2_j _ _ _ _ z]; exact hg2 k hk ek
      · by_cases z : k = i
        · subst z; rw [u2_s]
        · rw [u2_j _ _ _ _ z]; exact hg1 k (by omega) ek
    · have e' : ¬ d 5 i = nI 1 := e
      refine ih s ⟨by rw [tot_e e']; exact s1, g, hg2, fun k hk ek => ?_⟩
      have z : k ≠ i := fun z => by subst z; exact e ek
      exact hg1 k (by omega) ek
